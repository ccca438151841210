/-! MY OWN (by program): X10_road, X10_fault, X7_nextTunnel, X7_keptCount, X10_has, X5_letterOf, X10_letter, X6_weightAt, X6_allWeights, X10_tunnel, X7_breathOf, X7_givesOf, X7_thinksOf, X10_holder, X7_scoreOf, X10_score, J9_floorDiv_f86c9, X10_thousandths, X10_likely, X10_isLength, X4_secondsHeld, X10_holds, X10_made, X4_allHold, X4_tellAlone -/
theorem dX10_road_0 : decode cX10_road 0 = .ok (.aload_n 0, 1) := by decide +kernel
theorem dX10_road_1 : decode cX10_road 1 = .ok (.getfield 78, 3) := by decide +kernel
theorem dX10_road_4 : decode cX10_road 4 = .ok (.aload_n 0, 1) := by decide +kernel
theorem dX10_road_5 : decode cX10_road 5 = .ok (.getfield 69, 3) := by decide +kernel
theorem dX10_road_8 : decode cX10_road 8 = .ok (.invokevirtual 97, 3) := by decide +kernel
theorem dX10_road_11 : decode cX10_road 11 = .ok (.iconst 0, 1) := by decide +kernel
theorem dX10_road_12 : decode cX10_road 12 = .ok (.istore_n 1, 1) := by decide +kernel
theorem dX10_road_13 : decode cX10_road 13 = .ok (.iload_n 1, 1) := by decide +kernel
theorem dX10_road_14 : decode cX10_road 14 = .ok (.bipush 80, 2) := by decide +kernel
theorem dX10_road_16 : decode cX10_road 16 = .ok (.if_icmp .gt 26, 3) := by decide +kernel
theorem dX10_road_19 : decode cX10_road 19 = .ok (.aload_n 0, 1) := by decide +kernel
theorem dX10_road_20 : decode cX10_road 20 = .ok (.getfield 78, 3) := by decide +kernel
theorem dX10_road_23 : decode cX10_road 23 = .ok (.invokevirtual 101, 3) := by decide +kernel
theorem dX10_road_26 : decode cX10_road 26 = .ok (.ifCond .eq 16, 3) := by decide +kernel
theorem dX10_road_29 : decode cX10_road 29 = .ok (.aload_n 0, 1) := by decide +kernel
theorem dX10_road_30 : decode cX10_road 30 = .ok (.getfield 78, 3) := by decide +kernel
theorem dX10_road_33 : decode cX10_road 33 = .ok (.invokevirtual 105, 3) := by decide +kernel
theorem dX10_road_36 : decode cX10_road 36 = .ok (.iinc 1 1, 3) := by decide +kernel
theorem dX10_road_39 : decode cX10_road 39 = .ok (.goto (-26), 3) := by decide +kernel
theorem dX10_road_42 : decode cX10_road 42 = .ok (.aload_n 0, 1) := by decide +kernel
theorem dX10_road_43 : decode cX10_road 43 = .ok (.getfield 12, 3) := by decide +kernel
theorem dX10_road_46 : decode cX10_road 46 = .ok (.iconst 0, 1) := by decide +kernel
theorem dX10_road_47 : decode cX10_road 47 = .ok (.putfield 86, 3) := by decide +kernel
theorem dX10_road_50 : decode cX10_road 50 = .ok (.aload_n 0, 1) := by decide +kernel
theorem dX10_road_51 : decode cX10_road 51 = .ok (.getfield 78, 3) := by decide +kernel
theorem dX10_road_54 : decode cX10_road 54 = .ok (.getfield 108, 3) := by decide +kernel
theorem dX10_road_57 : decode cX10_road 57 = .ok (.ifCond .eq 9, 3) := by decide +kernel
theorem dX10_road_60 : decode cX10_road 60 = .ok (.aload_n 0, 1) := by decide +kernel
theorem dX10_road_61 : decode cX10_road 61 = .ok (.iconst 1, 1) := by decide +kernel
theorem dX10_road_62 : decode cX10_road 62 = .ok (.invokevirtual 89, 3) := by decide +kernel
theorem dX10_road_65 : decode cX10_road 65 = .ok (.ireturn, 1) := by decide +kernel
theorem dX10_road_66 : decode cX10_road 66 = .ok (.aload_n 0, 1) := by decide +kernel
theorem dX10_road_67 : decode cX10_road 67 = .ok (.getfield 69, 3) := by decide +kernel
theorem dX10_road_70 : decode cX10_road 70 = .ok (.astore_n 1, 1) := by decide +kernel
theorem dX10_road_71 : decode cX10_road 71 = .ok (.aload_n 0, 1) := by decide +kernel
theorem dX10_road_72 : decode cX10_road 72 = .ok (.aload_n 0, 1) := by decide +kernel
theorem dX10_road_73 : decode cX10_road 73 = .ok (.getfield 38, 3) := by decide +kernel
theorem dX10_road_76 : decode cX10_road 76 = .ok (.getfield 111, 3) := by decide +kernel
theorem dX10_road_79 : decode cX10_road 79 = .ok (.putfield 69, 3) := by decide +kernel
theorem dX10_road_82 : decode cX10_road 82 = .ok (.aload_n 0, 1) := by decide +kernel
theorem dX10_road_83 : decode cX10_road 83 = .ok (.getfield 38, 3) := by decide +kernel
theorem dX10_road_86 : decode cX10_road 86 = .ok (.aload_n 1, 1) := by decide +kernel
theorem dX10_road_87 : decode cX10_road 87 = .ok (.putfield 111, 3) := by decide +kernel
theorem dX10_road_90 : decode cX10_road 90 = .ok (.aload_n 0, 1) := by decide +kernel
theorem dX10_road_91 : decode cX10_road 91 = .ok (.getfield 19, 3) := by decide +kernel
theorem dX10_road_94 : decode cX10_road 94 = .ok (.aload_n 1, 1) := by decide +kernel
theorem dX10_road_95 : decode cX10_road 95 = .ok (.invokevirtual 114, 3) := by decide +kernel
theorem dX10_road_98 : decode cX10_road 98 = .ok (.aload_n 0, 1) := by decide +kernel
theorem dX10_road_99 : decode cX10_road 99 = .ok (.getfield 26, 3) := by decide +kernel
theorem dX10_road_102 : decode cX10_road 102 = .ok (.iconst 0, 1) := by decide +kernel
theorem dX10_road_103 : decode cX10_road 103 = .ok (.putfield 115, 3) := by decide +kernel
theorem dX10_road_106 : decode cX10_road 106 = .ok (.aload_n 0, 1) := by decide +kernel
theorem dX10_road_107 : decode cX10_road 107 = .ok (.getfield 54, 3) := by decide +kernel
theorem dX10_road_110 : decode cX10_road 110 = .ok (.iconst 0, 1) := by decide +kernel
theorem dX10_road_111 : decode cX10_road 111 = .ok (.putfield 118, 3) := by decide +kernel
theorem dX10_road_114 : decode cX10_road 114 = .ok (.aload_n 0, 1) := by decide +kernel
theorem dX10_road_115 : decode cX10_road 115 = .ok (.getfield 47, 3) := by decide +kernel
theorem dX10_road_118 : decode cX10_road 118 = .ok (.invokevirtual 119, 3) := by decide +kernel
theorem dX10_road_121 : decode cX10_road 121 = .ok (.aload_n 1, 1) := by decide +kernel
theorem dX10_road_122 : decode cX10_road 122 = .ok (.getfield 122, 3) := by decide +kernel
theorem dX10_road_125 : decode cX10_road 125 = .ok (.ireturn, 1) := by decide +kernel
def fX10_road_42 (σ : zS) : Option (Int32 × zS) := bnd (iS σ 2 1 0) fun σ3 => if (iG σ3 54 9) = 0 then bnd (qS σ3 (σ3.2.2.2.1, σ3.2.2.2.1, σ3.2.2.2.2)) fun σ4 => bnd (qS σ4 (σ4.2.2.1, σ3.2.2.1, σ4.2.2.2.2)) fun σ5 => bnr (fX7_begin σ3.2.2.1 σ5) fun σ6 => bnd (iS σ6 6 2 0) fun σ8 => bnd (iS σ8 32 3 0) fun σ9 => bnr (fX0_forget σ9) fun σ10 => some (iG σ10 (rp σ3.2.2.1 + 0) 0, σ10) else bnc (fX10_refuse 1 σ3) fun v14 σ12 => some (v14, σ12)
theorem kX10_road_42 {sc : Nat × (Nat → Int32)} (σ : zS) (w : Int32 × zS) (h : fX10_road_42 σ = some w) : zR (zY0 sc) 131 0 0 mX10_road 42 [(0, .ref 1)] [] (zE σ) (some (.int w.1), zE w.2) := by
  unfold fX10_road_42 at h
  refine kR.aload_n dX10_road_42 0 rfl ?_
  refine kR.getR (v := 2) dX10_road_43 flX10_12 zcf10 zp1 (Or.inl ⟨_, rfl⟩) rfl ?_
  refine zR.iconst (v := 0) dX10_road_46 (by decide) ?_
  refine kR.putI dX10_road_47 fpX10_86 zcf9 zp2 rfl h (fun σ3 h => ?_)
  refine kR.aload_n dX10_road_50 0 rfl ?_
  refine kR.getR (v := 54) dX10_road_51 flX10_78 zcf10 zp1 (Or.inl ⟨_, rfl⟩) rfl ?_
  refine kR.getI dX10_road_54 flX10_108 zcf5 zp54 (Or.inl rfl) ?_
  refine kR.if_eq (tgt := 66) dX10_road_57 (by decide) h (fun h => ?_) (fun h => ?_)
  · refine kR.aload_n dX10_road_66 0 rfl ?_
    refine kR.getR (v := (rp σ3.2.2.1 + 0)) dX10_road_67 flX10_69 zcf10 zp1 (Or.inl ⟨_, rfl⟩) rfl ?_
    refine zR.astore_n (i := 1) (ls' := [(1, .ref (rp σ3.2.2.1 + 0)), (0, .ref 1)]) dX10_road_70 rfl (by decide) rfl ?_
    refine kR.aload_n dX10_road_71 1 rfl ?_
    refine kR.aload_n dX10_road_72 1 rfl ?_
    refine kR.getR (v := 8) dX10_road_73 flX10_38 zcf10 zp1 (Or.inl ⟨_, rfl⟩) rfl ?_
    refine kR.getR (v := (rp σ3.2.2.2.1 + 0)) dX10_road_76 flX10_111 zcf4 zp8 (Or.inl ⟨_, rfl⟩) rfl ?_
    refine kR.putQ (t := (σ3.2.2.2.1, σ3.2.2.2.1, σ3.2.2.2.2)) dX10_road_79 fpX10_69 zcf10 zp1 (Or.inl ⟨_, rfl⟩) (zq_set _ _ _ _ _ rfl (by show _ < 103; decide) (by show _ < 11; decide)) h (fun σ4 h => ?_)
    refine kR.aload_n dX10_road_82 1 rfl ?_
    refine kR.getR (v := 8) dX10_road_83 flX10_38 zcf10 zp1 (Or.inl ⟨_, rfl⟩) rfl ?_
    refine kR.aload_n dX10_road_86 0 rfl ?_
    refine kR.putQ (t := (σ4.2.2.1, σ3.2.2.1, σ4.2.2.2.2)) dX10_road_87 fpX10_111 zcf4 zp8 (Or.inl ⟨_, rfl⟩) (zq_set _ _ _ _ _ rfl (by show _ < 103; decide) (by show _ < 4; decide)) h (fun σ5 h => ?_)
    refine kR.aload_n dX10_road_90 1 rfl ?_
    refine kR.getR (v := 4) dX10_road_91 flX10_19 zcf10 zp1 (Or.inl ⟨_, rfl⟩) rfl ?_
    refine kR.aload_n dX10_road_94 0 rfl ?_
    obtain ⟨σ6, e7, h⟩ := bnr_some h
    refine kR.cVv [.ref (rp σ3.2.2.1 + 0)] dX10_road_95 rfl (by decide) mwX10_114 zp4 (by decide) rfl rfl (Nat.le_of_ble_eq_true rfl) (lX7_begin σ3.2.2.1 σ5 _ e7) ?_
    refine kR.aload_n dX10_road_98 1 rfl ?_
    refine kR.getR (v := 6) dX10_road_99 flX10_26 zcf10 zp1 (Or.inl ⟨_, rfl⟩) rfl ?_
    refine zR.iconst (v := 0) dX10_road_102 (by decide) ?_
    refine kR.putI dX10_road_103 fpX10_115 zcf2 zp6 rfl h (fun σ8 h => ?_)
    refine kR.aload_n dX10_road_106 1 rfl ?_
    refine kR.getR (v := 32) dX10_road_107 flX10_54 zcf10 zp1 (Or.inl ⟨_, rfl⟩) rfl ?_
    refine zR.iconst (v := 0) dX10_road_110 (by decide) ?_
    refine kR.putI dX10_road_111 fpX10_118 zcf1 zp32 rfl h (fun σ9 h => ?_)
    refine kR.aload_n dX10_road_114 1 rfl ?_
    refine kR.getR (v := 27) dX10_road_115 flX10_47 zcf10 zp1 (Or.inl ⟨_, rfl⟩) rfl ?_
    obtain ⟨σ10, e11, h⟩ := bnr_some h
    refine kR.cVv [] dX10_road_118 rfl (by decide) mwX10_119 zp27 (by decide) rfl rfl (Nat.le_of_ble_eq_true rfl) (lX0_forget σ9 _ e11) ?_
    refine kR.aload_n dX10_road_121 0 rfl ?_
    refine kR.getI dX10_road_122 flX10_122 zcf6 (zq0 σ3.2.2.1) (Or.inl rfl) ?_
    exact kR.iretW dX10_road_125 (nzI rfl _) h
  · refine kR.aload_n dX10_road_60 0 rfl ?_
    refine zR.iconst (v := 1) dX10_road_61 (by decide) ?_
    obtain ⟨v14, σ12, e13, h⟩ := bnc_some h
    refine kR.cVi [.int 1] dX10_road_62 rfl (by decide) mwX10_89 zp1 (by decide) rfl rfl (Nat.le_of_ble_eq_true rfl) (lX10_refuse 1 σ3 _ e13) ?_
    exact kR.iretW dX10_road_65 (nzI rfl _) h
def fX10_road_13 : Nat → Int32 → zS → Option (Int32 × zS)
  | 0, _, _ => none
  | f + 1, x1, σ => if 80 < x1 then fX10_road_42 σ else bnc (fX5_comesToStatement σ) fun v17 σ15 => if v17 = 0 then fX10_road_42 σ15 else bnr (fX5_readStatement σ15) fun σ18 => fX10_road_13 f (x1 + 1) σ18
theorem kX10_road_13 {sc : Nat × (Nat → Int32)} : ∀ (fuel : Nat) (x1 : Int32) (σ : zS) (w : Int32 × zS) (h : fX10_road_13 fuel x1 σ = some w), zR (zY0 sc) 131 0 0 mX10_road 13 [(0, .ref 1), (1, .int x1)] [] (zE σ) (some (.int w.1), zE w.2) := by
  intro fuel
  induction fuel with
  | zero => intro x1 σ w h; exact nomatch h
  | succ f ih =>
    intro x1 σ w h
    rw [fX10_road_13] at h
    refine kR.iload_n dX10_road_13 1 rfl ?_
    refine zR.bipush (v := 80) dX10_road_14 (by decide) ?_
    refine kR.icmp_gt (tgt := 42) dX10_road_16 (by decide) h (fun h => ?_) (fun h => ?_)
    · refine zR.sub [0] rfl ?_
      exact kX10_road_42 _ _ h
    · refine kR.aload_n dX10_road_19 0 rfl ?_
      refine kR.getR (v := 54) dX10_road_20 flX10_78 zcf10 zp1 (Or.inl ⟨_, rfl⟩) rfl ?_
      obtain ⟨v17, σ15, e16, h⟩ := bnc_some h
      refine kR.cVi [] dX10_road_23 rfl (by decide) mwX10_101 zp54 (by decide) rfl rfl (Nat.le_of_ble_eq_true rfl) (lX5_comesToStatement σ _ e16) ?_
      refine kR.if_eq (tgt := 42) dX10_road_26 (by decide) h (fun h => ?_) (fun h => ?_)
      · refine zR.sub [0] rfl ?_
        exact kX10_road_42 _ _ h
      · refine kR.aload_n dX10_road_29 0 rfl ?_
        refine kR.getR (v := 54) dX10_road_30 flX10_78 zcf10 zp1 (Or.inl ⟨_, rfl⟩) rfl ?_
        obtain ⟨σ18, e19, h⟩ := bnr_some h
        refine kR.cVv [] dX10_road_33 rfl (by decide) mwX10_105 zp54 (by decide) rfl rfl (Nat.le_of_ble_eq_true rfl) (lX5_readStatement σ15 _ e19) ?_
        refine zR.iinc 1 (v := x1 + 1) (ls' := [(1, .int (x1 + 1)), (0, .ref 1)]) dX10_road_36 rfl rfl (by decide) rfl ?_
        refine zR.goto (tgt := 13) dX10_road_39 (by decide) ?_
        refine zR.sub [1, 0] rfl ?_
        exact ih _ _ _ h
def fX10_road (σ : zS) : Option (Int32 × zS) := bnr (fX5_begin σ.2.2.1 σ) fun σ1 => fX10_road_13 zF 0 σ1
theorem eX10_road {sc : Nat × (Nat → Int32)} (σ : zS) (w : Int32 × zS) (h : fX10_road σ = some w) : zR (zY0 sc) 131 0 0 mX10_road 0 [(0, .ref 1)] [] (zE σ) (some (.int w.1), zE w.2) := by
  unfold fX10_road at h
  refine kR.aload_n dX10_road_0 0 rfl ?_
  refine kR.getR (v := 54) dX10_road_1 flX10_78 zcf10 zp1 (Or.inl ⟨_, rfl⟩) rfl ?_
  refine kR.aload_n dX10_road_4 0 rfl ?_
  refine kR.getR (v := (rp σ.2.2.1 + 0)) dX10_road_5 flX10_69 zcf10 zp1 (Or.inl ⟨_, rfl⟩) rfl ?_
  obtain ⟨σ1, e2, h⟩ := bnr_some h
  refine kR.cVv [.ref (rp σ.2.2.1 + 0)] dX10_road_8 rfl (by decide) mwX10_97 zp54 (by decide) rfl rfl (Nat.le_of_ble_eq_true rfl) (lX5_begin σ.2.2.1 σ _ e2) ?_
  refine zR.iconst (v := 0) dX10_road_11 (by decide) ?_
  refine zR.istore_n (i := 1) (ls' := [(1, .int 0), (0, .ref 1)]) dX10_road_12 rfl (by decide) rfl ?_
  refine zR.sub [1, 0] rfl ?_
  exact kX10_road_13 zF _ _ _ h
theorem lX10_road {sc : Nat × (Nat → Int32)} (σ : zS) (w : Int32 × zS) (h : fX10_road σ = some w) : zC (zY0 sc) 131 0 0 mX10_road [.ref 1] (zE σ) (some (.int w.1), zE w.2) := zC.of (by decide +kernel) (Nat.le_of_ble_eq_true rfl) ⟨_, rfl⟩ (eX10_road σ w h)
theorem dX10_fault_0 : decode cX10_fault 0 = .ok (.iload_n 1, 1) := by decide +kernel
theorem dX10_fault_1 : decode cX10_fault 1 = .ok (.lookupswitch 43 #[(0, 27), (1, 35)], 27) := by decide +kernel
theorem dX10_fault_28 : decode cX10_fault 28 = .ok (.aload_n 0, 1) := by decide +kernel
theorem dX10_fault_29 : decode cX10_fault 29 = .ok (.getfield 78, 3) := by decide +kernel
theorem dX10_fault_32 : decode cX10_fault 32 = .ok (.getfield 108, 3) := by decide +kernel
theorem dX10_fault_35 : decode cX10_fault 35 = .ok (.ireturn, 1) := by decide +kernel
theorem dX10_fault_36 : decode cX10_fault 36 = .ok (.aload_n 0, 1) := by decide +kernel
theorem dX10_fault_37 : decode cX10_fault 37 = .ok (.getfield 78, 3) := by decide +kernel
theorem dX10_fault_40 : decode cX10_fault 40 = .ok (.getfield 125, 3) := by decide +kernel
theorem dX10_fault_43 : decode cX10_fault 43 = .ok (.ireturn, 1) := by decide +kernel
theorem dX10_fault_44 : decode cX10_fault 44 = .ok (.iconst (-1), 1) := by decide +kernel
theorem dX10_fault_45 : decode cX10_fault 45 = .ok (.ireturn, 1) := by decide +kernel
def fX10_fault (σ : zS) (p1 : Int32) : Int32 := if p1 = 0 then iG σ 54 9 else if p1 = 1 then iG σ 54 10 else (-1)
theorem eX10_fault {sc : Nat × (Nat → Int32)} (σ : zS) (p1 : Int32) (w : Int32) (h : fX10_fault σ p1 = w) : zR (zY0 sc) 1 0 0 mX10_fault 0 [(0, .ref 1), (1, .int p1)] [] (zE σ) (some (.int w), zE σ) := by
  unfold fX10_fault at h
  refine kR.iload_n dX10_fault_0 1 rfl ?_
  by_cases e0 : p1 = 0
  · rw [if_pos e0] at h
    refine zR.lookup (off := 27) (tgt := 28) dX10_fault_1 (by decide) (by rw [e0]; decide) (by decide) ?_
    refine kR.aload_n dX10_fault_28 0 rfl ?_
    refine kR.getR (v := 54) dX10_fault_29 flX10_78 zcf10 zp1 (Or.inl ⟨_, rfl⟩) rfl ?_
    refine kR.getI dX10_fault_32 flX10_108 zcf5 zp54 (Or.inl rfl) ?_
    exact kR.iret dX10_fault_35 (nzI rfl _) h
  rw [if_neg e0] at h
  by_cases e1 : p1 = 1
  · rw [if_pos e1] at h
    refine zR.lookup (off := 35) (tgt := 36) dX10_fault_1 (by decide) (by rw [e1]; decide) (by decide) ?_
    refine kR.aload_n dX10_fault_36 0 rfl ?_
    refine kR.getR (v := 54) dX10_fault_37 flX10_78 zcf10 zp1 (Or.inl ⟨_, rfl⟩) rfl ?_
    refine kR.getI dX10_fault_40 flX10_125 zcf5 zp54 (Or.inl rfl) ?_
    exact kR.iret dX10_fault_43 (nzI rfl _) h
  rw [if_neg e1] at h
  refine zR.lookup (off := 43) (tgt := 44) dX10_fault_1 (by decide) (by show Op.lookupswitch.offset [(0, 27), (1, 35)] _ _ = _; rw [Op.lookupswitch.offset_cons, if_neg (tne (k := 0) e0 (by decide)), Op.lookupswitch.offset_cons, if_neg (tne (k := 1) e1 (by decide)), Op.lookupswitch.offset_nil]) (by decide) ?_
  refine zR.iconst (v := (-1)) dX10_fault_44 (by decide) ?_
  exact kR.iret dX10_fault_45 (nzI rfl _) h
theorem lX10_fault {sc : Nat × (Nat → Int32)} (σ : zS) (p1 : Int32) : zC (zY0 sc) 1 0 0 mX10_fault [.ref 1, .int p1] (zE σ) (some (.int (fX10_fault σ p1)), zE σ) := zC.of (by decide +kernel) (Nat.le_of_ble_eq_true rfl) ⟨_, rfl⟩ (eX10_fault σ p1 _ rfl)
theorem dX7_nextTunnel_0 : decode cX7_nextTunnel 0 = .ok (.aload_n 0, 1) := by decide +kernel
theorem dX7_nextTunnel_1 : decode cX7_nextTunnel 1 = .ok (.getfield 11, 3) := by decide +kernel
theorem dX7_nextTunnel_4 : decode cX7_nextTunnel 4 = .ok (.iconst 0, 1) := by decide +kernel
theorem dX7_nextTunnel_5 : decode cX7_nextTunnel 5 = .ok (.iaload, 1) := by decide +kernel
theorem dX7_nextTunnel_6 : decode cX7_nextTunnel 6 = .ok (.ireturn, 1) := by decide +kernel
def fX7_nextTunnel (σ : zS) : Option Int32 := aI σ 5 104 0 fun v1 => some v1
theorem eX7_nextTunnel {sc : Nat × (Nat → Int32)} (σ : zS) (w : Int32) (h : fX7_nextTunnel σ = some w) : zR (zY0 sc) 1 0 0 mX7_nextTunnel 0 [(0, .ref 4)] [] (zE σ) (some (.int w), zE σ) := by
  unfold fX7_nextTunnel at h
  refine kR.aload_n dX7_nextTunnel_0 0 rfl ?_
  refine kR.getR (v := 5) dX7_nextTunnel_1 flX7_11 zcf7 zp4 (Or.inr ⟨_, rfl⟩) rfl ?_
  refine zR.iconst (v := 0) dX7_nextTunnel_4 (by decide) ?_
  refine kR.iald dX7_nextTunnel_5 zp5 rfl h (fun v1 h => ?_)
  exact kR.iretO dX7_nextTunnel_6 (nzI rfl _) h
theorem lX7_nextTunnel {sc : Nat × (Nat → Int32)} (σ : zS) (w : Int32) (h : fX7_nextTunnel σ = some w) : zC (zY0 sc) 1 0 0 mX7_nextTunnel [.ref 4] (zE σ) (some (.int w), zE σ) := zC.of (by decide +kernel) (Nat.le_of_ble_eq_true rfl) ⟨_, rfl⟩ (eX7_nextTunnel σ w h)
theorem dX7_keptCount_0 : decode cX7_keptCount 0 = .ok (.bipush 48, 2) := by decide +kernel
theorem dX7_keptCount_2 : decode cX7_keptCount 2 = .ok (.aload_n 0, 1) := by decide +kernel
theorem dX7_keptCount_3 : decode cX7_keptCount 3 = .ok (.getfield 11, 3) := by decide +kernel
theorem dX7_keptCount_6 : decode cX7_keptCount 6 = .ok (.iconst 1, 1) := by decide +kernel
theorem dX7_keptCount_7 : decode cX7_keptCount 7 = .ok (.iaload, 1) := by decide +kernel
theorem dX7_keptCount_8 : decode cX7_keptCount 8 = .ok (.invokestatic 54, 3) := by decide +kernel
theorem dX7_keptCount_11 : decode cX7_keptCount 11 = .ok (.ireturn, 1) := by decide +kernel
def fX7_keptCount (σ : zS) : Option Int32 := aI σ 5 104 1 fun v1 => some (fJ9_min_7cf53 48 v1)
theorem eX7_keptCount {sc : Nat × (Nat → Int32)} (σ : zS) (w : Int32) (h : fX7_keptCount σ = some w) : zR (zY0 sc) 2 0 0 mX7_keptCount 0 [(0, .ref 4)] [] (zE σ) (some (.int w), zE σ) := by
  unfold fX7_keptCount at h
  refine zR.bipush (v := 48) dX7_keptCount_0 (by decide) ?_
  refine kR.aload_n dX7_keptCount_2 0 rfl ?_
  refine kR.getR (v := 5) dX7_keptCount_3 flX7_11 zcf7 zp4 (Or.inr ⟨_, rfl⟩) rfl ?_
  refine zR.iconst (v := 1) dX7_keptCount_6 (by decide) ?_
  refine kR.iald dX7_keptCount_7 zp5 rfl h (fun v1 h => ?_)
  refine kR.cSi [.int 48, .int v1] dX7_keptCount_8 rfl (by decide) (Or.inl mwX7_54) rfl (Nat.le_of_ble_eq_true rfl) (lJ9_min_7cf53 48 v1) ?_
  exact kR.iretO dX7_keptCount_11 (nzI rfl _) h
theorem lX7_keptCount {sc : Nat × (Nat → Int32)} (σ : zS) (w : Int32) (h : fX7_keptCount σ = some w) : zC (zY0 sc) 2 0 0 mX7_keptCount [.ref 4] (zE σ) (some (.int w), zE σ) := zC.of (by decide +kernel) (Nat.le_of_ble_eq_true rfl) ⟨_, rfl⟩ (eX7_keptCount σ w h)
theorem dX10_has_0 : decode cX10_has 0 = .ok (.iload_n 1, 1) := by decide +kernel
theorem dX10_has_1 : decode cX10_has 1 = .ok (.tableswitch 120 0 7 #[47, 58, 69, 80, 91, 99, 107, 115], 47) := by decide +kernel
theorem dX10_has_48 : decode cX10_has 48 = .ok (.aload_n 0, 1) := by decide +kernel
theorem dX10_has_49 : decode cX10_has 49 = .ok (.getfield 38, 3) := by decide +kernel
theorem dX10_has_52 : decode cX10_has 52 = .ok (.getfield 111, 3) := by decide +kernel
theorem dX10_has_55 : decode cX10_has 55 = .ok (.getfield 128, 3) := by decide +kernel
theorem dX10_has_58 : decode cX10_has 58 = .ok (.ireturn, 1) := by decide +kernel
theorem dX10_has_59 : decode cX10_has 59 = .ok (.aload_n 0, 1) := by decide +kernel
theorem dX10_has_60 : decode cX10_has 60 = .ok (.getfield 38, 3) := by decide +kernel
theorem dX10_has_63 : decode cX10_has 63 = .ok (.getfield 111, 3) := by decide +kernel
theorem dX10_has_66 : decode cX10_has 66 = .ok (.getfield 131, 3) := by decide +kernel
theorem dX10_has_69 : decode cX10_has 69 = .ok (.ireturn, 1) := by decide +kernel
theorem dX10_has_70 : decode cX10_has 70 = .ok (.aload_n 0, 1) := by decide +kernel
theorem dX10_has_71 : decode cX10_has 71 = .ok (.getfield 38, 3) := by decide +kernel
theorem dX10_has_74 : decode cX10_has 74 = .ok (.getfield 111, 3) := by decide +kernel
theorem dX10_has_77 : decode cX10_has 77 = .ok (.getfield 134, 3) := by decide +kernel
theorem dX10_has_80 : decode cX10_has 80 = .ok (.ireturn, 1) := by decide +kernel
theorem dX10_has_81 : decode cX10_has 81 = .ok (.aload_n 0, 1) := by decide +kernel
theorem dX10_has_82 : decode cX10_has 82 = .ok (.getfield 38, 3) := by decide +kernel
theorem dX10_has_85 : decode cX10_has 85 = .ok (.getfield 111, 3) := by decide +kernel
theorem dX10_has_88 : decode cX10_has 88 = .ok (.getfield 137, 3) := by decide +kernel
theorem dX10_has_91 : decode cX10_has 91 = .ok (.ireturn, 1) := by decide +kernel
theorem dX10_has_92 : decode cX10_has 92 = .ok (.aload_n 0, 1) := by decide +kernel
theorem dX10_has_93 : decode cX10_has 93 = .ok (.getfield 19, 3) := by decide +kernel
theorem dX10_has_96 : decode cX10_has 96 = .ok (.invokevirtual 140, 3) := by decide +kernel
theorem dX10_has_99 : decode cX10_has 99 = .ok (.ireturn, 1) := by decide +kernel
theorem dX10_has_100 : decode cX10_has 100 = .ok (.aload_n 0, 1) := by decide +kernel
theorem dX10_has_101 : decode cX10_has 101 = .ok (.getfield 19, 3) := by decide +kernel
theorem dX10_has_104 : decode cX10_has 104 = .ok (.invokevirtual 144, 3) := by decide +kernel
theorem dX10_has_107 : decode cX10_has 107 = .ok (.ireturn, 1) := by decide +kernel
theorem dX10_has_108 : decode cX10_has 108 = .ok (.aload_n 0, 1) := by decide +kernel
theorem dX10_has_109 : decode cX10_has 109 = .ok (.getfield 26, 3) := by decide +kernel
theorem dX10_has_112 : decode cX10_has 112 = .ok (.getfield 115, 3) := by decide +kernel
theorem dX10_has_115 : decode cX10_has 115 = .ok (.ireturn, 1) := by decide +kernel
theorem dX10_has_116 : decode cX10_has 116 = .ok (.aload_n 0, 1) := by decide +kernel
theorem dX10_has_117 : decode cX10_has 117 = .ok (.getfield 82, 3) := by decide +kernel
theorem dX10_has_120 : decode cX10_has 120 = .ok (.ireturn, 1) := by decide +kernel
theorem dX10_has_121 : decode cX10_has 121 = .ok (.iconst (-1), 1) := by decide +kernel
theorem dX10_has_122 : decode cX10_has 122 = .ok (.ireturn, 1) := by decide +kernel
def fX10_has (σ : zS) (p1 : Int32) : Option Int32 := if p1 = 0 then some (iG σ (rp σ.2.2.2.1 + 0) 1) else if p1 = 1 then some (iG σ (rp σ.2.2.2.1 + 0) 2) else if p1 = 2 then some (iG σ (rp σ.2.2.2.1 + 0) 3) else if p1 = 3 then some (iG σ (rp σ.2.2.2.1 + 0) 4) else if p1 = 4 then bnr (fX7_nextTunnel σ) fun v1 => some v1 else if p1 = 5 then bnr (fX7_keptCount σ) fun v3 => some v3 else if p1 = 6 then some (iG σ 6 2) else if p1 = 7 then some (iG σ 1 10) else some ((-1))
theorem eX10_has {sc : Nat × (Nat → Int32)} (σ : zS) (p1 : Int32) (w : Int32) (h : fX10_has σ p1 = some w) : zR (zY0 sc) 3 0 0 mX10_has 0 [(0, .ref 1), (1, .int p1)] [] (zE σ) (some (.int w), zE σ) := by
  unfold fX10_has at h
  refine kR.iload_n dX10_has_0 1 rfl ?_
  by_cases e0 : p1 = 0
  · rw [if_pos e0] at h
    refine zR.tableIn (off := 47) (tgt := 48) dX10_has_1 (by rw [e0]; decide) (by rw [e0]; decide) (by rw [e0]; rfl) (by decide) ?_
    refine kR.aload_n dX10_has_48 0 rfl ?_
    refine kR.getR (v := 8) dX10_has_49 flX10_38 zcf10 zp1 (Or.inl ⟨_, rfl⟩) rfl ?_
    refine kR.getR (v := (rp σ.2.2.2.1 + 0)) dX10_has_52 flX10_111 zcf4 zp8 (Or.inl ⟨_, rfl⟩) rfl ?_
    refine kR.getI dX10_has_55 flX10_128 zcf6 (zq0 σ.2.2.2.1) (Or.inl rfl) ?_
    exact kR.iretO dX10_has_58 (nzI rfl _) h
  rw [if_neg e0] at h
  by_cases e1 : p1 = 1
  · rw [if_pos e1] at h
    refine zR.tableIn (off := 58) (tgt := 59) dX10_has_1 (by rw [e1]; decide) (by rw [e1]; decide) (by rw [e1]; rfl) (by decide) ?_
    refine kR.aload_n dX10_has_59 0 rfl ?_
    refine kR.getR (v := 8) dX10_has_60 flX10_38 zcf10 zp1 (Or.inl ⟨_, rfl⟩) rfl ?_
    refine kR.getR (v := (rp σ.2.2.2.1 + 0)) dX10_has_63 flX10_111 zcf4 zp8 (Or.inl ⟨_, rfl⟩) rfl ?_
    refine kR.getI dX10_has_66 flX10_131 zcf6 (zq0 σ.2.2.2.1) (Or.inl rfl) ?_
    exact kR.iretO dX10_has_69 (nzI rfl _) h
  rw [if_neg e1] at h
  by_cases e2 : p1 = 2
  · rw [if_pos e2] at h
    refine zR.tableIn (off := 69) (tgt := 70) dX10_has_1 (by rw [e2]; decide) (by rw [e2]; decide) (by rw [e2]; rfl) (by decide) ?_
    refine kR.aload_n dX10_has_70 0 rfl ?_
    refine kR.getR (v := 8) dX10_has_71 flX10_38 zcf10 zp1 (Or.inl ⟨_, rfl⟩) rfl ?_
    refine kR.getR (v := (rp σ.2.2.2.1 + 0)) dX10_has_74 flX10_111 zcf4 zp8 (Or.inl ⟨_, rfl⟩) rfl ?_
    refine kR.getI dX10_has_77 flX10_134 zcf6 (zq0 σ.2.2.2.1) (Or.inl rfl) ?_
    exact kR.iretO dX10_has_80 (nzI rfl _) h
  rw [if_neg e2] at h
  by_cases e3 : p1 = 3
  · rw [if_pos e3] at h
    refine zR.tableIn (off := 80) (tgt := 81) dX10_has_1 (by rw [e3]; decide) (by rw [e3]; decide) (by rw [e3]; rfl) (by decide) ?_
    refine kR.aload_n dX10_has_81 0 rfl ?_
    refine kR.getR (v := 8) dX10_has_82 flX10_38 zcf10 zp1 (Or.inl ⟨_, rfl⟩) rfl ?_
    refine kR.getR (v := (rp σ.2.2.2.1 + 0)) dX10_has_85 flX10_111 zcf4 zp8 (Or.inl ⟨_, rfl⟩) rfl ?_
    refine kR.getI dX10_has_88 flX10_137 zcf6 (zq0 σ.2.2.2.1) (Or.inl rfl) ?_
    exact kR.iretO dX10_has_91 (nzI rfl _) h
  rw [if_neg e3] at h
  by_cases e4 : p1 = 4
  · rw [if_pos e4] at h
    refine zR.tableIn (off := 91) (tgt := 92) dX10_has_1 (by rw [e4]; decide) (by rw [e4]; decide) (by rw [e4]; rfl) (by decide) ?_
    refine kR.aload_n dX10_has_92 0 rfl ?_
    refine kR.getR (v := 4) dX10_has_93 flX10_19 zcf10 zp1 (Or.inl ⟨_, rfl⟩) rfl ?_
    obtain ⟨v1, e2, h⟩ := bnr_some h
    refine kR.cVi [] dX10_has_96 rfl (by decide) mwX10_140 zp4 (by decide) rfl rfl (Nat.le_of_ble_eq_true rfl) (lX7_nextTunnel σ _ e2) ?_
    exact kR.iretO dX10_has_99 (nzI rfl _) h
  rw [if_neg e4] at h
  by_cases e5 : p1 = 5
  · rw [if_pos e5] at h
    refine zR.tableIn (off := 99) (tgt := 100) dX10_has_1 (by rw [e5]; decide) (by rw [e5]; decide) (by rw [e5]; rfl) (by decide) ?_
    refine kR.aload_n dX10_has_100 0 rfl ?_
    refine kR.getR (v := 4) dX10_has_101 flX10_19 zcf10 zp1 (Or.inl ⟨_, rfl⟩) rfl ?_
    obtain ⟨v3, e4, h⟩ := bnr_some h
    refine kR.cVi [] dX10_has_104 rfl (by decide) mwX10_144 zp4 (by decide) rfl rfl (Nat.le_of_ble_eq_true rfl) (lX7_keptCount σ _ e4) ?_
    exact kR.iretO dX10_has_107 (nzI rfl _) h
  rw [if_neg e5] at h
  by_cases e6 : p1 = 6
  · rw [if_pos e6] at h
    refine zR.tableIn (off := 107) (tgt := 108) dX10_has_1 (by rw [e6]; decide) (by rw [e6]; decide) (by rw [e6]; rfl) (by decide) ?_
    refine kR.aload_n dX10_has_108 0 rfl ?_
    refine kR.getR (v := 6) dX10_has_109 flX10_26 zcf10 zp1 (Or.inl ⟨_, rfl⟩) rfl ?_
    refine kR.getI dX10_has_112 flX10_115 zcf2 zp6 (Or.inl rfl) ?_
    exact kR.iretO dX10_has_115 (nzI rfl _) h
  rw [if_neg e6] at h
  by_cases e7 : p1 = 7
  · rw [if_pos e7] at h
    refine zR.tableIn (off := 115) (tgt := 116) dX10_has_1 (by rw [e7]; decide) (by rw [e7]; decide) (by rw [e7]; rfl) (by decide) ?_
    refine kR.aload_n dX10_has_116 0 rfl ?_
    refine kR.getI dX10_has_117 flX10_82 zcf10 zp1 (Or.inl rfl) ?_
    exact kR.iretO dX10_has_120 (nzI rfl _) h
  rw [if_neg e7] at h
  refine zR.tableD (tgt := 121) dX10_has_1 (ts_out 8 (by decide) (fun j hj e => match j, hj, e with | 0, _, e => absurd e (tne e0 rfl) | 1, _, e => absurd e (tne e1 rfl) | 2, _, e => absurd e (tne e2 rfl) | 3, _, e => absurd e (tne e3 rfl) | 4, _, e => absurd e (tne e4 rfl) | 5, _, e => absurd e (tne e5 rfl) | 6, _, e => absurd e (tne e6 rfl) | 7, _, e => absurd e (tne e7 rfl) | j + 8, hj, _ => absurd hj (by omega))) (by decide) ?_
  refine zR.iconst (v := (-1)) dX10_has_121 (by decide) ?_
  exact kR.iretO dX10_has_122 (nzI rfl _) h
theorem lX10_has {sc : Nat × (Nat → Int32)} (σ : zS) (p1 : Int32) (w : Int32) (h : fX10_has σ p1 = some w) : zC (zY0 sc) 3 0 0 mX10_has [.ref 1, .int p1] (zE σ) (some (.int w), zE σ) := zC.of (by decide +kernel) (Nat.le_of_ble_eq_true rfl) ⟨_, rfl⟩ (eX10_has σ p1 w h)
theorem dX5_letterOf_0 : decode cX5_letterOf 0 = .ok (.iload_n 0, 1) := by decide +kernel
theorem dX5_letterOf_1 : decode cX5_letterOf 1 = .ok (.iconst 5, 1) := by decide +kernel
theorem dX5_letterOf_2 : decode cX5_letterOf 2 = .ok (.iconst 5, 1) := by decide +kernel
theorem dX5_letterOf_3 : decode cX5_letterOf 3 = .ok (.iload_n 1, 1) := by decide +kernel
theorem dX5_letterOf_4 : decode cX5_letterOf 4 = .ok (.isub, 1) := by decide +kernel
theorem dX5_letterOf_5 : decode cX5_letterOf 5 = .ok (.imul, 1) := by decide +kernel
theorem dX5_letterOf_6 : decode cX5_letterOf 6 = .ok (.ishr, 1) := by decide +kernel
theorem dX5_letterOf_7 : decode cX5_letterOf 7 = .ok (.bipush 31, 2) := by decide +kernel
theorem dX5_letterOf_9 : decode cX5_letterOf 9 = .ok (.iand, 1) := by decide +kernel
theorem dX5_letterOf_10 : decode cX5_letterOf 10 = .ok (.ireturn, 1) := by decide +kernel
def fX5_letterOf (p0 : Int32) (p1 : Int32) : Int32 := (p0 >>> ((5 * (5 - p1)) &&& 31)) &&& 31
theorem eX5_letterOf {sc : Nat × (Nat → Int32)} {μ : zM} (p0 : Int32) (p1 : Int32) (w : Int32) (h : fX5_letterOf p0 p1 = w) : zR (zY0 sc) 1 0 0 mX5_letterOf 0 [(0, .int p0), (1, .int p1)] [] μ (some (.int w), μ) := by
  unfold fX5_letterOf at h
  refine kR.iload_n dX5_letterOf_0 0 rfl ?_
  refine zR.iconst (v := 5) dX5_letterOf_1 (by decide) ?_
  refine zR.iconst (v := 5) dX5_letterOf_2 (by decide) ?_
  refine kR.iload_n dX5_letterOf_3 1 rfl ?_
  refine zR.isub dX5_letterOf_4 ?_
  refine zR.imul dX5_letterOf_5 ?_
  refine zR.ishr dX5_letterOf_6 ?_
  refine zR.bipush (v := 31) dX5_letterOf_7 (by decide) ?_
  refine zR.iand dX5_letterOf_9 ?_
  exact kR.iret dX5_letterOf_10 (nzI rfl _) h
theorem lX5_letterOf {sc : Nat × (Nat → Int32)} {μ : zM} (p0 : Int32) (p1 : Int32) : zC (zY0 sc) 1 0 0 mX5_letterOf [.int p0, .int p1] μ (some (.int (fX5_letterOf p0 p1)), μ) := zC.of (by decide +kernel) (Nat.le_of_ble_eq_true rfl) ⟨_, rfl⟩ (eX5_letterOf p0 p1 _ rfl)
theorem dX10_letter_0 : decode cX10_letter 0 = .ok (.iload_n 3, 1) := by decide +kernel
theorem dX10_letter_1 : decode cX10_letter 1 = .ok (.ifCond .lt 9, 3) := by decide +kernel
theorem dX10_letter_4 : decode cX10_letter 4 = .ok (.iload_n 3, 1) := by decide +kernel
theorem dX10_letter_5 : decode cX10_letter 5 = .ok (.bipush 6, 2) := by decide +kernel
theorem dX10_letter_7 : decode cX10_letter 7 = .ok (.if_icmp .lt 5, 3) := by decide +kernel
theorem dX10_letter_10 : decode cX10_letter 10 = .ok (.iconst (-1), 1) := by decide +kernel
theorem dX10_letter_11 : decode cX10_letter 11 = .ok (.ireturn, 1) := by decide +kernel
theorem dX10_letter_12 : decode cX10_letter 12 = .ok (.iload_n 1, 1) := by decide +kernel
theorem dX10_letter_13 : decode cX10_letter 13 = .ok (.ifCond .ne 36, 3) := by decide +kernel
theorem dX10_letter_16 : decode cX10_letter 16 = .ok (.aload_n 0, 1) := by decide +kernel
theorem dX10_letter_17 : decode cX10_letter 17 = .ok (.getfield 38, 3) := by decide +kernel
theorem dX10_letter_20 : decode cX10_letter 20 = .ok (.getfield 111, 3) := by decide +kernel
theorem dX10_letter_23 : decode cX10_letter 23 = .ok (.iload_n 2, 1) := by decide +kernel
theorem dX10_letter_24 : decode cX10_letter 24 = .ok (.invokevirtual 147, 3) := by decide +kernel
theorem dX10_letter_27 : decode cX10_letter 27 = .ok (.ifCond .eq 22, 3) := by decide +kernel
theorem dX10_letter_30 : decode cX10_letter 30 = .ok (.aload_n 0, 1) := by decide +kernel
theorem dX10_letter_31 : decode cX10_letter 31 = .ok (.getfield 38, 3) := by decide +kernel
theorem dX10_letter_34 : decode cX10_letter 34 = .ok (.getfield 111, 3) := by decide +kernel
theorem dX10_letter_37 : decode cX10_letter 37 = .ok (.getfield 151, 3) := by decide +kernel
theorem dX10_letter_40 : decode cX10_letter 40 = .ok (.iload_n 2, 1) := by decide +kernel
theorem dX10_letter_41 : decode cX10_letter 41 = .ok (.invokestatic 154, 3) := by decide +kernel
theorem dX10_letter_44 : decode cX10_letter 44 = .ok (.iload_n 3, 1) := by decide +kernel
theorem dX10_letter_45 : decode cX10_letter 45 = .ok (.invokestatic 158, 3) := by decide +kernel
theorem dX10_letter_48 : decode cX10_letter 48 = .ok (.ireturn, 1) := by decide +kernel
theorem dX10_letter_49 : decode cX10_letter 49 = .ok (.iload_n 1, 1) := by decide +kernel
theorem dX10_letter_50 : decode cX10_letter 50 = .ok (.iconst 1, 1) := by decide +kernel
theorem dX10_letter_51 : decode cX10_letter 51 = .ok (.if_icmp .ne 36, 3) := by decide +kernel
theorem dX10_letter_54 : decode cX10_letter 54 = .ok (.aload_n 0, 1) := by decide +kernel
theorem dX10_letter_55 : decode cX10_letter 55 = .ok (.getfield 38, 3) := by decide +kernel
theorem dX10_letter_58 : decode cX10_letter 58 = .ok (.getfield 111, 3) := by decide +kernel
theorem dX10_letter_61 : decode cX10_letter 61 = .ok (.iload_n 2, 1) := by decide +kernel
theorem dX10_letter_62 : decode cX10_letter 62 = .ok (.invokevirtual 162, 3) := by decide +kernel
theorem dX10_letter_65 : decode cX10_letter 65 = .ok (.ifCond .eq 22, 3) := by decide +kernel
theorem dX10_letter_68 : decode cX10_letter 68 = .ok (.aload_n 0, 1) := by decide +kernel
theorem dX10_letter_69 : decode cX10_letter 69 = .ok (.getfield 38, 3) := by decide +kernel
theorem dX10_letter_72 : decode cX10_letter 72 = .ok (.getfield 111, 3) := by decide +kernel
theorem dX10_letter_75 : decode cX10_letter 75 = .ok (.getfield 165, 3) := by decide +kernel
theorem dX10_letter_78 : decode cX10_letter 78 = .ok (.iload_n 2, 1) := by decide +kernel
theorem dX10_letter_79 : decode cX10_letter 79 = .ok (.invokestatic 154, 3) := by decide +kernel
theorem dX10_letter_82 : decode cX10_letter 82 = .ok (.iload_n 3, 1) := by decide +kernel
theorem dX10_letter_83 : decode cX10_letter 83 = .ok (.invokestatic 158, 3) := by decide +kernel
theorem dX10_letter_86 : decode cX10_letter 86 = .ok (.ireturn, 1) := by decide +kernel
theorem dX10_letter_87 : decode cX10_letter 87 = .ok (.iconst (-1), 1) := by decide +kernel
theorem dX10_letter_88 : decode cX10_letter 88 = .ok (.ireturn, 1) := by decide +kernel
def fX10_letter_47 (σ : zS) (x1 : Int32) (x2 : Int32) (x3 : Int32) : Option Int32 := if x1 = 1 then if (fX6_hasHolder σ.2.2.2.1 σ x2) = 0 then some ((-1)) else aI σ (rp σ.2.2.2.1 + 6) 6 x2 fun v1 => some (fX5_letterOf v1 x3) else some ((-1))
theorem kX10_letter_49 {sc : Nat × (Nat → Int32)} (σ : zS) (x1 : Int32) (x2 : Int32) (x3 : Int32) (w : Int32) (h : fX10_letter_47 σ x1 x2 x3 = some w) : zR (zY0 sc) 2 0 0 mX10_letter 49 [(0, .ref 1), (1, .int x1), (2, .int x2), (3, .int x3)] [] (zE σ) (some (.int w), zE σ) := by
  unfold fX10_letter_47 at h
  refine kR.iload_n dX10_letter_49 1 rfl ?_
  refine zR.iconst (v := 1) dX10_letter_50 (by decide) ?_
  refine kR.icmp_ne (tgt := 87) dX10_letter_51 (by decide) h (fun h => ?_) (fun h => ?_)
  · refine zR.iconst (v := (-1)) dX10_letter_87 (by decide) ?_
    exact kR.iretO dX10_letter_88 (nzI rfl _) h
  · refine kR.aload_n dX10_letter_54 0 rfl ?_
    refine kR.getR (v := 8) dX10_letter_55 flX10_38 zcf10 zp1 (Or.inl ⟨_, rfl⟩) rfl ?_
    refine kR.getR (v := (rp σ.2.2.2.1 + 0)) dX10_letter_58 flX10_111 zcf4 zp8 (Or.inl ⟨_, rfl⟩) rfl ?_
    refine kR.iload_n dX10_letter_61 2 rfl ?_
    refine kR.cVi [.int x2] dX10_letter_62 rfl (by decide) mwX10_162 (zq0 σ.2.2.2.1) (by decide) rfl rfl (Nat.le_of_ble_eq_true rfl) (lX6_hasHolder σ.2.2.2.1 σ x2) ?_
    refine kR.if_eq (tgt := 87) dX10_letter_65 (by decide) h (fun h => ?_) (fun h => ?_)
    · refine zR.iconst (v := (-1)) dX10_letter_87 (by decide) ?_
      exact kR.iretO dX10_letter_88 (nzI rfl _) h
    · refine kR.aload_n dX10_letter_68 0 rfl ?_
      refine kR.getR (v := 8) dX10_letter_69 flX10_38 zcf10 zp1 (Or.inl ⟨_, rfl⟩) rfl ?_
      refine kR.getR (v := (rp σ.2.2.2.1 + 0)) dX10_letter_72 flX10_111 zcf4 zp8 (Or.inl ⟨_, rfl⟩) rfl ?_
      refine kR.getR (v := (rp σ.2.2.2.1 + 6)) dX10_letter_75 flX10_165 zcf6 (zq0 σ.2.2.2.1) (Or.inr ⟨_, rfl⟩) (zr0_10 _ σ.2.2.2.1) ?_
      refine kR.iload_n dX10_letter_78 2 rfl ?_
      obtain ⟨v1, e0, h⟩ := aIv (Nat.le_of_ble_eq_true rfl) h
      refine kR.cSi [.ref (rp σ.2.2.2.1 + 6), .int x2] dX10_letter_79 rfl (by decide) (Or.inl mwX10_154) rfl (Nat.le_of_ble_eq_true rfl) (lX10_valueAt (rp σ.2.2.2.1 + 6) 6 σ (fun _ => (zq6 σ.2.2.2.1)) (zl6 σ.2.2.2.1) (Nat.le_of_ble_eq_true rfl) x2 _ e0) ?_
      refine kR.iload_n dX10_letter_82 3 rfl ?_
      refine kR.cSi [.int v1, .int x3] dX10_letter_83 rfl (by decide) (Or.inl mwX10_158) rfl (Nat.le_of_ble_eq_true rfl) (lX5_letterOf v1 x3) ?_
      exact kR.iretO dX10_letter_86 (nzI rfl _) h
def fX10_letter (σ : zS) (p1 : Int32) (p2 : Int32) (p3 : Int32) : Option Int32 := if p3 < 0 then some ((-1)) else if p3 < 6 then if p1 = 0 then if (fX6_hasTunnel σ.2.2.2.1 σ p2) = 0 then fX10_letter_47 σ p1 p2 p3 else aI σ (rp σ.2.2.2.1 + 1) 6 p2 fun v2 => some (fX5_letterOf v2 p3) else fX10_letter_47 σ p1 p2 p3 else some ((-1))
theorem eX10_letter {sc : Nat × (Nat → Int32)} (σ : zS) (p1 : Int32) (p2 : Int32) (p3 : Int32) (w : Int32) (h : fX10_letter σ p1 p2 p3 = some w) : zR (zY0 sc) 2 0 0 mX10_letter 0 [(0, .ref 1), (1, .int p1), (2, .int p2), (3, .int p3)] [] (zE σ) (some (.int w), zE σ) := by
  unfold fX10_letter at h
  refine kR.iload_n dX10_letter_0 3 rfl ?_
  refine kR.if_lt (tgt := 10) dX10_letter_1 (by decide) h (fun h => ?_) (fun h => ?_)
  · refine zR.iconst (v := (-1)) dX10_letter_10 (by decide) ?_
    exact kR.iretO dX10_letter_11 (nzI rfl _) h
  · refine kR.iload_n dX10_letter_4 3 rfl ?_
    refine zR.bipush (v := 6) dX10_letter_5 (by decide) ?_
    refine kR.icmp_lt (tgt := 12) dX10_letter_7 (by decide) h (fun h => ?_) (fun h => ?_)
    · refine kR.iload_n dX10_letter_12 1 rfl ?_
      refine kR.if_ne (tgt := 49) dX10_letter_13 (by decide) h (fun h => ?_) (fun h => ?_)
      · exact kX10_letter_49 σ _ _ _ _ h
      · refine kR.aload_n dX10_letter_16 0 rfl ?_
        refine kR.getR (v := 8) dX10_letter_17 flX10_38 zcf10 zp1 (Or.inl ⟨_, rfl⟩) rfl ?_
        refine kR.getR (v := (rp σ.2.2.2.1 + 0)) dX10_letter_20 flX10_111 zcf4 zp8 (Or.inl ⟨_, rfl⟩) rfl ?_
        refine kR.iload_n dX10_letter_23 2 rfl ?_
        refine kR.cVi [.int p2] dX10_letter_24 rfl (by decide) mwX10_147 (zq0 σ.2.2.2.1) (by decide) rfl rfl (Nat.le_of_ble_eq_true rfl) (lX6_hasTunnel σ.2.2.2.1 σ p2) ?_
        refine kR.if_eq (tgt := 49) dX10_letter_27 (by decide) h (fun h => ?_) (fun h => ?_)
        · exact kX10_letter_49 σ _ _ _ _ h
        · refine kR.aload_n dX10_letter_30 0 rfl ?_
          refine kR.getR (v := 8) dX10_letter_31 flX10_38 zcf10 zp1 (Or.inl ⟨_, rfl⟩) rfl ?_
          refine kR.getR (v := (rp σ.2.2.2.1 + 0)) dX10_letter_34 flX10_111 zcf4 zp8 (Or.inl ⟨_, rfl⟩) rfl ?_
          refine kR.getR (v := (rp σ.2.2.2.1 + 1)) dX10_letter_37 flX10_151 zcf6 (zq0 σ.2.2.2.1) (Or.inr ⟨_, rfl⟩) (zr0_5 _ σ.2.2.2.1) ?_
          refine kR.iload_n dX10_letter_40 2 rfl ?_
          obtain ⟨v2, e0, h⟩ := aIv (Nat.le_of_ble_eq_true rfl) h
          refine kR.cSi [.ref (rp σ.2.2.2.1 + 1), .int p2] dX10_letter_41 rfl (by decide) (Or.inl mwX10_154) rfl (Nat.le_of_ble_eq_true rfl) (lX10_valueAt (rp σ.2.2.2.1 + 1) 6 σ (fun _ => (zq1 σ.2.2.2.1)) (zl1 σ.2.2.2.1) (Nat.le_of_ble_eq_true rfl) p2 _ e0) ?_
          refine kR.iload_n dX10_letter_44 3 rfl ?_
          refine kR.cSi [.int v2, .int p3] dX10_letter_45 rfl (by decide) (Or.inl mwX10_158) rfl (Nat.le_of_ble_eq_true rfl) (lX5_letterOf v2 p3) ?_
          exact kR.iretO dX10_letter_48 (nzI rfl _) h
    · refine zR.iconst (v := (-1)) dX10_letter_10 (by decide) ?_
      exact kR.iretO dX10_letter_11 (nzI rfl _) h
theorem lX10_letter {sc : Nat × (Nat → Int32)} (σ : zS) (p1 : Int32) (p2 : Int32) (p3 : Int32) (w : Int32) (h : fX10_letter σ p1 p2 p3 = some w) : zC (zY0 sc) 2 0 0 mX10_letter [.ref 1, .int p1, .int p2, .int p3] (zE σ) (some (.int w), zE σ) := zC.of (by decide +kernel) (Nat.le_of_ble_eq_true rfl) ⟨_, rfl⟩ (eX10_letter σ p1 p2 p3 w h)
theorem dX6_weightAt_0 : decode cX6_weightAt 0 = .ok (.aload_n 0, 1) := by decide +kernel
theorem dX6_weightAt_1 : decode cX6_weightAt 1 = .ok (.getfield 40, 3) := by decide +kernel
theorem dX6_weightAt_4 : decode cX6_weightAt 4 = .ok (.iload_n 1, 1) := by decide +kernel
theorem dX6_weightAt_5 : decode cX6_weightAt 5 = .ok (.iconst 4, 1) := by decide +kernel
theorem dX6_weightAt_6 : decode cX6_weightAt 6 = .ok (.imul, 1) := by decide +kernel
theorem dX6_weightAt_7 : decode cX6_weightAt 7 = .ok (.iload_n 2, 1) := by decide +kernel
theorem dX6_weightAt_8 : decode cX6_weightAt 8 = .ok (.iadd, 1) := by decide +kernel
theorem dX6_weightAt_9 : decode cX6_weightAt 9 = .ok (.invokestatic 81, 3) := by decide +kernel
theorem dX6_weightAt_12 : decode cX6_weightAt 12 = .ok (.ireturn, 1) := by decide +kernel
def fX6_weightAt (b0 : Bool) (σ : zS) (p1 : Int32) (p2 : Int32) : Option Int32 := aI σ (rp b0 + 5) 24 ((p1 * 4) + p2) fun v1 => some v1
theorem eX6_weightAt {sc : Nat × (Nat → Int32)} (b0 : Bool) (σ : zS) (p1 : Int32) (p2 : Int32) (w : Int32) (h : fX6_weightAt b0 σ p1 p2 = some w) : zR (zY0 sc) 2 0 0 mX6_weightAt 0 [(0, .ref (rp b0 + 0)), (1, .int p1), (2, .int p2)] [] (zE σ) (some (.int w), zE σ) := by
  unfold fX6_weightAt at h
  refine kR.aload_n dX6_weightAt_0 0 rfl ?_
  refine kR.getR (v := (rp b0 + 5)) dX6_weightAt_1 flX6_40 zcf6 (zq0 b0) (Or.inr ⟨_, rfl⟩) (zr0_9 _ b0) ?_
  refine kR.iload_n dX6_weightAt_4 1 rfl ?_
  refine zR.iconst (v := 4) dX6_weightAt_5 (by decide) ?_
  refine zR.imul dX6_weightAt_6 ?_
  refine kR.iload_n dX6_weightAt_7 2 rfl ?_
  refine zR.iadd dX6_weightAt_8 ?_
  obtain ⟨v1, e0, h⟩ := aIv (Nat.le_of_ble_eq_true rfl) h
  refine kR.cSi [.ref (rp b0 + 5), .int ((p1 * 4) + p2)] dX6_weightAt_9 rfl (by decide) (Or.inr mwX6_81) rfl (Nat.le_of_ble_eq_true rfl) (lX10_valueAt (rp b0 + 5) 24 σ (fun _ => (zq5 b0)) (zl5 b0) (Nat.le_of_ble_eq_true rfl) ((p1 * 4) + p2) _ e0) ?_
  exact kR.iretO dX6_weightAt_12 (nzI rfl _) h
theorem lX6_weightAt {sc : Nat × (Nat → Int32)} (b0 : Bool) (σ : zS) (p1 : Int32) (p2 : Int32) (w : Int32) (h : fX6_weightAt b0 σ p1 p2 = some w) : zC (zY0 sc) 2 0 0 mX6_weightAt [.ref (rp b0 + 0), .int p1, .int p2] (zE σ) (some (.int w), zE σ) := zC.of (by decide +kernel) (Nat.le_of_ble_eq_true rfl) ⟨_, rfl⟩ (eX6_weightAt b0 σ p1 p2 w h)
theorem dX6_allWeights_0 : decode cX6_allWeights 0 = .ok (.iconst 0, 1) := by decide +kernel
theorem dX6_allWeights_1 : decode cX6_allWeights 1 = .ok (.istore_n 2, 1) := by decide +kernel
theorem dX6_allWeights_2 : decode cX6_allWeights 2 = .ok (.iconst 0, 1) := by decide +kernel
theorem dX6_allWeights_3 : decode cX6_allWeights 3 = .ok (.istore_n 3, 1) := by decide +kernel
theorem dX6_allWeights_4 : decode cX6_allWeights 4 = .ok (.iload_n 3, 1) := by decide +kernel
theorem dX6_allWeights_5 : decode cX6_allWeights 5 = .ok (.aload_n 0, 1) := by decide +kernel
theorem dX6_allWeights_6 : decode cX6_allWeights 6 = .ok (.iload_n 1, 1) := by decide +kernel
theorem dX6_allWeights_7 : decode cX6_allWeights 7 = .ok (.invokevirtual 85, 3) := by decide +kernel
theorem dX6_allWeights_10 : decode cX6_allWeights 10 = .ok (.if_icmp .ge 18, 3) := by decide +kernel
theorem dX6_allWeights_13 : decode cX6_allWeights 13 = .ok (.iload_n 2, 1) := by decide +kernel
theorem dX6_allWeights_14 : decode cX6_allWeights 14 = .ok (.aload_n 0, 1) := by decide +kernel
theorem dX6_allWeights_15 : decode cX6_allWeights 15 = .ok (.iload_n 1, 1) := by decide +kernel
theorem dX6_allWeights_16 : decode cX6_allWeights 16 = .ok (.iload_n 3, 1) := by decide +kernel
theorem dX6_allWeights_17 : decode cX6_allWeights 17 = .ok (.invokevirtual 93, 3) := by decide +kernel
theorem dX6_allWeights_20 : decode cX6_allWeights 20 = .ok (.iadd, 1) := by decide +kernel
theorem dX6_allWeights_21 : decode cX6_allWeights 21 = .ok (.istore_n 2, 1) := by decide +kernel
theorem dX6_allWeights_22 : decode cX6_allWeights 22 = .ok (.iinc 3 1, 3) := by decide +kernel
theorem dX6_allWeights_25 : decode cX6_allWeights 25 = .ok (.goto (-21), 3) := by decide +kernel
theorem dX6_allWeights_28 : decode cX6_allWeights 28 = .ok (.iload_n 2, 1) := by decide +kernel
theorem dX6_allWeights_29 : decode cX6_allWeights 29 = .ok (.ireturn, 1) := by decide +kernel
def fX6_allWeights_4 (b0 : Bool) (σ : zS) : Nat → Int32 → Int32 → Int32 → Option Int32
  | 0, _, _, _ => none
  | f + 1, x1, x2, x3 => aI σ (rp b0 + 3) 6 x1 fun v1 => if v1 ≤ x3 then some x2 else bnr (fX6_weightAt b0 σ x1 x3) fun v2 => fX6_allWeights_4 b0 σ f x1 (x2 + v2) (x3 + 1)
theorem kX6_allWeights_4 {sc : Nat × (Nat → Int32)} (b0 : Bool) (σ : zS) : ∀ (fuel : Nat) (x1 : Int32) (x2 : Int32) (x3 : Int32) (w : Int32) (h : fX6_allWeights_4 b0 σ fuel x1 x2 x3 = some w), zR (zY0 sc) 3 0 0 mX6_allWeights 4 [(0, .ref (rp b0 + 0)), (1, .int x1), (2, .int x2), (3, .int x3)] [] (zE σ) (some (.int w), zE σ) := by
  intro fuel
  induction fuel with
  | zero => intro x1 x2 x3 w h; exact nomatch h
  | succ f ih =>
    intro x1 x2 x3 w h
    rw [fX6_allWeights_4] at h
    refine kR.iload_n dX6_allWeights_4 3 rfl ?_
    refine kR.aload_n dX6_allWeights_5 0 rfl ?_
    refine kR.iload_n dX6_allWeights_6 1 rfl ?_
    obtain ⟨v1, e0, h⟩ := aIlc h
    refine kR.cVi [.int x1] dX6_allWeights_7 rfl (by decide) mwX6_85 (zq0 b0) (by decide) rfl rfl (Nat.le_of_ble_eq_true rfl) (lX6_lengthCount b0 σ x1 _ e0) ?_
    refine kR.icmp_ge (tgt := 28) dX6_allWeights_10 (by decide) h (fun h => ?_) (fun h => ?_)
    · refine kR.iload_n dX6_allWeights_28 2 rfl ?_
      exact kR.iretO dX6_allWeights_29 (nzI rfl _) h
    · refine kR.iload_n dX6_allWeights_13 2 rfl ?_
      refine kR.aload_n dX6_allWeights_14 0 rfl ?_
      refine kR.iload_n dX6_allWeights_15 1 rfl ?_
      refine kR.iload_n dX6_allWeights_16 3 rfl ?_
      obtain ⟨v2, e3, h⟩ := bnr_some h
      refine kR.cVi [.int x1, .int x3] dX6_allWeights_17 rfl (by decide) mwX6_93 (zq0 b0) (by decide) rfl rfl (Nat.le_of_ble_eq_true rfl) (lX6_weightAt b0 σ x1 x3 _ e3) ?_
      refine zR.iadd dX6_allWeights_20 ?_
      refine zR.istore_n (i := 2) (ls' := [(2, .int (x2 + v2)), (0, .ref (rp b0 + 0)), (1, .int x1), (3, .int x3)]) dX6_allWeights_21 rfl (by decide) rfl ?_
      refine zR.iinc 3 (v := x3 + 1) (ls' := [(3, .int (x3 + 1)), (2, .int (x2 + v2)), (0, .ref (rp b0 + 0)), (1, .int x1)]) dX6_allWeights_22 rfl rfl (by decide) rfl ?_
      refine zR.goto (tgt := 4) dX6_allWeights_25 (by decide) ?_
      refine zR.sub [2, 3, 1, 0] rfl ?_
      exact ih _ _ _ _ h
def fX6_allWeights (b0 : Bool) (σ : zS) (p1 : Int32) : Option Int32 := fX6_allWeights_4 b0 σ zF p1 0 0
theorem eX6_allWeights {sc : Nat × (Nat → Int32)} (b0 : Bool) (σ : zS) (p1 : Int32) (w : Int32) (h : fX6_allWeights b0 σ p1 = some w) : zR (zY0 sc) 3 0 0 mX6_allWeights 0 [(0, .ref (rp b0 + 0)), (1, .int p1)] [] (zE σ) (some (.int w), zE σ) := by
  unfold fX6_allWeights at h
  refine zR.iconst (v := 0) dX6_allWeights_0 (by decide) ?_
  refine zR.istore_n (i := 2) (ls' := [(2, .int 0), (0, .ref (rp b0 + 0)), (1, .int p1)]) dX6_allWeights_1 rfl (by decide) rfl ?_
  refine zR.iconst (v := 0) dX6_allWeights_2 (by decide) ?_
  refine zR.istore_n (i := 3) (ls' := [(3, .int 0), (2, .int 0), (0, .ref (rp b0 + 0)), (1, .int p1)]) dX6_allWeights_3 rfl (by decide) rfl ?_
  refine zR.sub [2, 3, 1, 0] rfl ?_
  exact kX6_allWeights_4 b0 σ zF _ _ _ _ h
theorem lX6_allWeights {sc : Nat × (Nat → Int32)} (b0 : Bool) (σ : zS) (p1 : Int32) (w : Int32) (h : fX6_allWeights b0 σ p1 = some w) : zC (zY0 sc) 3 0 0 mX6_allWeights [.ref (rp b0 + 0), .int p1] (zE σ) (some (.int w), zE σ) := zC.of (by decide +kernel) (Nat.le_of_ble_eq_true rfl) ⟨_, rfl⟩ (eX6_allWeights b0 σ p1 w h)
theorem dX10_tunnel_0 : decode cX10_tunnel 0 = .ok (.aload_n 0, 1) := by decide +kernel
theorem dX10_tunnel_1 : decode cX10_tunnel 1 = .ok (.getfield 38, 3) := by decide +kernel
theorem dX10_tunnel_4 : decode cX10_tunnel 4 = .ok (.getfield 111, 3) := by decide +kernel
theorem dX10_tunnel_7 : decode cX10_tunnel 7 = .ok (.astore_n 3, 1) := by decide +kernel
theorem dX10_tunnel_8 : decode cX10_tunnel 8 = .ok (.aload_n 3, 1) := by decide +kernel
theorem dX10_tunnel_9 : decode cX10_tunnel 9 = .ok (.iload_n 1, 1) := by decide +kernel
theorem dX10_tunnel_10 : decode cX10_tunnel 10 = .ok (.invokevirtual 147, 3) := by decide +kernel
theorem dX10_tunnel_13 : decode cX10_tunnel 13 = .ok (.ifCond .ne 5, 3) := by decide +kernel
theorem dX10_tunnel_16 : decode cX10_tunnel 16 = .ok (.iconst (-1), 1) := by decide +kernel
theorem dX10_tunnel_17 : decode cX10_tunnel 17 = .ok (.ireturn, 1) := by decide +kernel
theorem dX10_tunnel_18 : decode cX10_tunnel 18 = .ok (.aload_n 3, 1) := by decide +kernel
theorem dX10_tunnel_19 : decode cX10_tunnel 19 = .ok (.iload_n 1, 1) := by decide +kernel
theorem dX10_tunnel_20 : decode cX10_tunnel 20 = .ok (.invokevirtual 168, 3) := by decide +kernel
theorem dX10_tunnel_23 : decode cX10_tunnel 23 = .ok (.istore 4, 2) := by decide +kernel
theorem dX10_tunnel_25 : decode cX10_tunnel 25 = .ok (.iload_n 2, 1) := by decide +kernel
theorem dX10_tunnel_26 : decode cX10_tunnel 26 = .ok (.bipush 10, 2) := by decide +kernel
theorem dX10_tunnel_28 : decode cX10_tunnel 28 = .ok (.if_icmp .lt 22, 3) := by decide +kernel
theorem dX10_tunnel_31 : decode cX10_tunnel 31 = .ok (.iload_n 2, 1) := by decide +kernel
theorem dX10_tunnel_32 : decode cX10_tunnel 32 = .ok (.bipush 10, 2) := by decide +kernel
theorem dX10_tunnel_34 : decode cX10_tunnel 34 = .ok (.iload 4, 2) := by decide +kernel
theorem dX10_tunnel_36 : decode cX10_tunnel 36 = .ok (.iadd, 1) := by decide +kernel
theorem dX10_tunnel_37 : decode cX10_tunnel 37 = .ok (.if_icmp .ge 13, 3) := by decide +kernel
theorem dX10_tunnel_40 : decode cX10_tunnel 40 = .ok (.aload_n 3, 1) := by decide +kernel
theorem dX10_tunnel_41 : decode cX10_tunnel 41 = .ok (.iload_n 1, 1) := by decide +kernel
theorem dX10_tunnel_42 : decode cX10_tunnel 42 = .ok (.iload_n 2, 1) := by decide +kernel
theorem dX10_tunnel_43 : decode cX10_tunnel 43 = .ok (.bipush 10, 2) := by decide +kernel
theorem dX10_tunnel_45 : decode cX10_tunnel 45 = .ok (.isub, 1) := by decide +kernel
theorem dX10_tunnel_46 : decode cX10_tunnel 46 = .ok (.invokevirtual 171, 3) := by decide +kernel
theorem dX10_tunnel_49 : decode cX10_tunnel 49 = .ok (.ireturn, 1) := by decide +kernel
theorem dX10_tunnel_50 : decode cX10_tunnel 50 = .ok (.iload_n 2, 1) := by decide +kernel
theorem dX10_tunnel_51 : decode cX10_tunnel 51 = .ok (.bipush 20, 2) := by decide +kernel
theorem dX10_tunnel_53 : decode cX10_tunnel 53 = .ok (.if_icmp .lt 22, 3) := by decide +kernel
theorem dX10_tunnel_56 : decode cX10_tunnel 56 = .ok (.iload_n 2, 1) := by decide +kernel
theorem dX10_tunnel_57 : decode cX10_tunnel 57 = .ok (.bipush 20, 2) := by decide +kernel
theorem dX10_tunnel_59 : decode cX10_tunnel 59 = .ok (.iload 4, 2) := by decide +kernel
theorem dX10_tunnel_61 : decode cX10_tunnel 61 = .ok (.iadd, 1) := by decide +kernel
theorem dX10_tunnel_62 : decode cX10_tunnel 62 = .ok (.if_icmp .ge 13, 3) := by decide +kernel
theorem dX10_tunnel_65 : decode cX10_tunnel 65 = .ok (.aload_n 3, 1) := by decide +kernel
theorem dX10_tunnel_66 : decode cX10_tunnel 66 = .ok (.iload_n 1, 1) := by decide +kernel
theorem dX10_tunnel_67 : decode cX10_tunnel 67 = .ok (.iload_n 2, 1) := by decide +kernel
theorem dX10_tunnel_68 : decode cX10_tunnel 68 = .ok (.bipush 20, 2) := by decide +kernel
theorem dX10_tunnel_70 : decode cX10_tunnel 70 = .ok (.isub, 1) := by decide +kernel
theorem dX10_tunnel_71 : decode cX10_tunnel 71 = .ok (.invokevirtual 174, 3) := by decide +kernel
theorem dX10_tunnel_74 : decode cX10_tunnel 74 = .ok (.ireturn, 1) := by decide +kernel
theorem dX10_tunnel_75 : decode cX10_tunnel 75 = .ok (.iload_n 2, 1) := by decide +kernel
theorem dX10_tunnel_76 : decode cX10_tunnel 76 = .ok (.tableswitch 46 0 2 #[28, 37, 40], 28) := by decide +kernel
theorem dX10_tunnel_104 : decode cX10_tunnel 104 = .ok (.aload_n 3, 1) := by decide +kernel
theorem dX10_tunnel_105 : decode cX10_tunnel 105 = .ok (.getfield 177, 3) := by decide +kernel
theorem dX10_tunnel_108 : decode cX10_tunnel 108 = .ok (.iload_n 1, 1) := by decide +kernel
theorem dX10_tunnel_109 : decode cX10_tunnel 109 = .ok (.invokestatic 154, 3) := by decide +kernel
theorem dX10_tunnel_112 : decode cX10_tunnel 112 = .ok (.ireturn, 1) := by decide +kernel
theorem dX10_tunnel_113 : decode cX10_tunnel 113 = .ok (.iload 4, 2) := by decide +kernel
theorem dX10_tunnel_115 : decode cX10_tunnel 115 = .ok (.ireturn, 1) := by decide +kernel
theorem dX10_tunnel_116 : decode cX10_tunnel 116 = .ok (.aload_n 3, 1) := by decide +kernel
theorem dX10_tunnel_117 : decode cX10_tunnel 117 = .ok (.iload_n 1, 1) := by decide +kernel
theorem dX10_tunnel_118 : decode cX10_tunnel 118 = .ok (.invokevirtual 180, 3) := by decide +kernel
theorem dX10_tunnel_121 : decode cX10_tunnel 121 = .ok (.ireturn, 1) := by decide +kernel
theorem dX10_tunnel_122 : decode cX10_tunnel 122 = .ok (.iconst (-1), 1) := by decide +kernel
theorem dX10_tunnel_123 : decode cX10_tunnel 123 = .ok (.ireturn, 1) := by decide +kernel
def fX10_tunnel_76 (σ : zS) (x1 : Int32) (x2 : Int32) (c3 : Bool) (x4 : Int32) : Option Int32 := if x2 = 0 then aI σ (rp c3 + 2) 6 x1 fun v2 => some v2 else if x2 = 1 then some x4 else if x2 = 2 then bnr (fX6_allWeights c3 σ x1) fun v3 => some v3 else some ((-1))
theorem kX10_tunnel_75 {sc : Nat × (Nat → Int32)} (σ : zS) (x1 : Int32) (x2 : Int32) (c3 : Bool) (x4 : Int32) (w : Int32) (h : fX10_tunnel_76 σ x1 x2 c3 x4 = some w) : zR (zY0 sc) 4 0 0 mX10_tunnel 75 [(1, .int x1), (2, .int x2), (3, .ref (rp c3 + 0)), (4, .int x4)] [] (zE σ) (some (.int w), zE σ) := by
  unfold fX10_tunnel_76 at h
  refine kR.iload_n dX10_tunnel_75 1 rfl ?_
  by_cases e0 : x2 = 0
  · rw [if_pos e0] at h
    refine zR.tableIn (off := 28) (tgt := 104) dX10_tunnel_76 (by rw [e0]; decide) (by rw [e0]; decide) (by rw [e0]; rfl) (by decide) ?_
    refine kR.aload_n dX10_tunnel_104 2 rfl ?_
    refine kR.getR (v := (rp c3 + 2)) dX10_tunnel_105 flX10_177 zcf6 (zq0 c3) (Or.inr ⟨_, rfl⟩) (zr0_6 _ c3) ?_
    refine kR.iload_n dX10_tunnel_108 0 rfl ?_
    obtain ⟨v2, e0, h⟩ := aIv (Nat.le_of_ble_eq_true rfl) h
    refine kR.cSi [.ref (rp c3 + 2), .int x1] dX10_tunnel_109 rfl (by decide) (Or.inl mwX10_154) rfl (Nat.le_of_ble_eq_true rfl) (lX10_valueAt (rp c3 + 2) 6 σ (fun _ => (zq2 c3)) (zl2 c3) (Nat.le_of_ble_eq_true rfl) x1 _ e0) ?_
    exact kR.iretO dX10_tunnel_112 (nzI rfl _) h
  rw [if_neg e0] at h
  by_cases e1 : x2 = 1
  · rw [if_pos e1] at h
    refine zR.tableIn (off := 37) (tgt := 113) dX10_tunnel_76 (by rw [e1]; decide) (by rw [e1]; decide) (by rw [e1]; rfl) (by decide) ?_
    refine kR.iload dX10_tunnel_113 3 rfl ?_
    exact kR.iretO dX10_tunnel_115 (nzI rfl _) h
  rw [if_neg e1] at h
  by_cases e2 : x2 = 2
  · rw [if_pos e2] at h
    refine zR.tableIn (off := 40) (tgt := 116) dX10_tunnel_76 (by rw [e2]; decide) (by rw [e2]; decide) (by rw [e2]; rfl) (by decide) ?_
    refine kR.aload_n dX10_tunnel_116 2 rfl ?_
    refine kR.iload_n dX10_tunnel_117 0 rfl ?_
    obtain ⟨v3, e4, h⟩ := bnr_some h
    refine kR.cVi [.int x1] dX10_tunnel_118 rfl (by decide) mwX10_180 (zq0 c3) (by decide) rfl rfl (Nat.le_of_ble_eq_true rfl) (lX6_allWeights c3 σ x1 _ e4) ?_
    exact kR.iretO dX10_tunnel_121 (nzI rfl _) h
  rw [if_neg e2] at h
  refine zR.tableD (tgt := 122) dX10_tunnel_76 (ts_out 3 (by decide) (fun j hj e => match j, hj, e with | 0, _, e => absurd e (tne e0 rfl) | 1, _, e => absurd e (tne e1 rfl) | 2, _, e => absurd e (tne e2 rfl) | j + 3, hj, _ => absurd hj (by omega))) (by decide) ?_
  refine zR.iconst (v := (-1)) dX10_tunnel_122 (by decide) ?_
  exact kR.iretO dX10_tunnel_123 (nzI rfl _) h
def fX10_tunnel_51 (σ : zS) (x1 : Int32) (x2 : Int32) (c3 : Bool) (x4 : Int32) : Option Int32 := if x2 < 20 then fX10_tunnel_76 σ x1 x2 c3 x4 else if (20 + x4) ≤ x2 then fX10_tunnel_76 σ x1 x2 c3 x4 else bnr (fX6_weightAt c3 σ x1 (x2 - 20)) fun v5 => some v5
theorem kX10_tunnel_50 {sc : Nat × (Nat → Int32)} (σ : zS) (x1 : Int32) (x2 : Int32) (c3 : Bool) (x4 : Int32) (w : Int32) (h : fX10_tunnel_51 σ x1 x2 c3 x4 = some w) : zR (zY0 sc) 4 0 0 mX10_tunnel 50 [(1, .int x1), (2, .int x2), (3, .ref (rp c3 + 0)), (4, .int x4)] [] (zE σ) (some (.int w), zE σ) := by
  unfold fX10_tunnel_51 at h
  refine kR.iload_n dX10_tunnel_50 1 rfl ?_
  refine zR.bipush (v := 20) dX10_tunnel_51 (by decide) ?_
  refine kR.icmp_lt (tgt := 75) dX10_tunnel_53 (by decide) h (fun h => ?_) (fun h => ?_)
  · exact kX10_tunnel_75 σ _ _ _ _ _ h
  · refine kR.iload_n dX10_tunnel_56 1 rfl ?_
    refine zR.bipush (v := 20) dX10_tunnel_57 (by decide) ?_
    refine kR.iload dX10_tunnel_59 3 rfl ?_
    refine zR.iadd dX10_tunnel_61 ?_
    refine kR.icmp_ge (tgt := 75) dX10_tunnel_62 (by decide) h (fun h => ?_) (fun h => ?_)
    · exact kX10_tunnel_75 σ _ _ _ _ _ h
    · refine kR.aload_n dX10_tunnel_65 2 rfl ?_
      refine kR.iload_n dX10_tunnel_66 0 rfl ?_
      refine kR.iload_n dX10_tunnel_67 1 rfl ?_
      refine zR.bipush (v := 20) dX10_tunnel_68 (by decide) ?_
      refine zR.isub dX10_tunnel_70 ?_
      obtain ⟨v5, e6, h⟩ := bnr_some h
      refine kR.cVi [.int x1, .int (x2 - 20)] dX10_tunnel_71 rfl (by decide) mwX10_174 (zq0 c3) (by decide) rfl rfl (Nat.le_of_ble_eq_true rfl) (lX6_weightAt c3 σ x1 (x2 - 20) _ e6) ?_
      exact kR.iretO dX10_tunnel_74 (nzI rfl _) h
def fX10_tunnel (σ : zS) (p1 : Int32) (p2 : Int32) : Option Int32 := if (fX6_hasTunnel σ.2.2.2.1 σ p1) = 0 then some ((-1)) else aI σ (rp σ.2.2.2.1 + 3) 6 p1 fun v1 => if p2 < 10 then fX10_tunnel_51 σ p1 p2 σ.2.2.2.1 v1 else if (10 + v1) ≤ p2 then fX10_tunnel_51 σ p1 p2 σ.2.2.2.1 v1 else bnr (fX6_lengthAt σ.2.2.2.1 σ p1 (p2 - 10)) fun v7 => some v7
theorem eX10_tunnel {sc : Nat × (Nat → Int32)} (σ : zS) (p1 : Int32) (p2 : Int32) (w : Int32) (h : fX10_tunnel σ p1 p2 = some w) : zR (zY0 sc) 4 0 0 mX10_tunnel 0 [(0, .ref 1), (1, .int p1), (2, .int p2)] [] (zE σ) (some (.int w), zE σ) := by
  unfold fX10_tunnel at h
  refine kR.aload_n dX10_tunnel_0 0 rfl ?_
  refine kR.getR (v := 8) dX10_tunnel_1 flX10_38 zcf10 zp1 (Or.inl ⟨_, rfl⟩) rfl ?_
  refine kR.getR (v := (rp σ.2.2.2.1 + 0)) dX10_tunnel_4 flX10_111 zcf4 zp8 (Or.inl ⟨_, rfl⟩) rfl ?_
  refine zR.astore_n (i := 3) (ls' := [(3, .ref (rp σ.2.2.2.1 + 0)), (0, .ref 1), (1, .int p1), (2, .int p2)]) dX10_tunnel_7 rfl (by decide) rfl ?_
  refine kR.aload_n dX10_tunnel_8 0 rfl ?_
  refine kR.iload_n dX10_tunnel_9 2 rfl ?_
  refine kR.cVi [.int p1] dX10_tunnel_10 rfl (by decide) mwX10_147 (zq0 σ.2.2.2.1) (by decide) rfl rfl (Nat.le_of_ble_eq_true rfl) (lX6_hasTunnel σ.2.2.2.1 σ p1) ?_
  refine kR.if_ne (tgt := 18) dX10_tunnel_13 (by decide) h (fun h => ?_) (fun h => ?_)
  · refine kR.aload_n dX10_tunnel_18 0 rfl ?_
    refine kR.iload_n dX10_tunnel_19 2 rfl ?_
    obtain ⟨v1, e0, h⟩ := aIlc h
    refine kR.cVi [.int p1] dX10_tunnel_20 rfl (by decide) mwX10_168 (zq0 σ.2.2.2.1) (by decide) rfl rfl (Nat.le_of_ble_eq_true rfl) (lX6_lengthCount σ.2.2.2.1 σ p1 _ e0) ?_
    refine zR.istore (i := 4) (ls' := [(4, .int v1), (3, .ref (rp σ.2.2.2.1 + 0)), (0, .ref 1), (1, .int p1), (2, .int p2)]) dX10_tunnel_23 (by decide) rfl ?_
    refine kR.iload_n dX10_tunnel_25 4 rfl ?_
    refine zR.bipush (v := 10) dX10_tunnel_26 (by decide) ?_
    refine kR.icmp_lt (tgt := 50) dX10_tunnel_28 (by decide) h (fun h => ?_) (fun h => ?_)
    · refine zR.sub [3, 4, 1, 0] rfl ?_
      exact kX10_tunnel_50 σ _ _ _ _ _ h
    · refine kR.iload_n dX10_tunnel_31 4 rfl ?_
      refine zR.bipush (v := 10) dX10_tunnel_32 (by decide) ?_
      refine kR.iload dX10_tunnel_34 0 rfl ?_
      refine zR.iadd dX10_tunnel_36 ?_
      refine kR.icmp_ge (tgt := 50) dX10_tunnel_37 (by decide) h (fun h => ?_) (fun h => ?_)
      · refine zR.sub [3, 4, 1, 0] rfl ?_
        exact kX10_tunnel_50 σ _ _ _ _ _ h
      · refine kR.aload_n dX10_tunnel_40 1 rfl ?_
        refine kR.iload_n dX10_tunnel_41 3 rfl ?_
        refine kR.iload_n dX10_tunnel_42 4 rfl ?_
        refine zR.bipush (v := 10) dX10_tunnel_43 (by decide) ?_
        refine zR.isub dX10_tunnel_45 ?_
        obtain ⟨v7, e8, h⟩ := bnr_some h
        refine kR.cVi [.int p1, .int (p2 - 10)] dX10_tunnel_46 rfl (by decide) mwX10_171 (zq0 σ.2.2.2.1) (by decide) rfl rfl (Nat.le_of_ble_eq_true rfl) (lX6_lengthAt σ.2.2.2.1 σ p1 (p2 - 10) _ e8) ?_
        exact kR.iretO dX10_tunnel_49 (nzI rfl _) h
  · refine zR.iconst (v := (-1)) dX10_tunnel_16 (by decide) ?_
    exact kR.iretO dX10_tunnel_17 (nzI rfl _) h
theorem lX10_tunnel {sc : Nat × (Nat → Int32)} (σ : zS) (p1 : Int32) (p2 : Int32) (w : Int32) (h : fX10_tunnel σ p1 p2 = some w) : zC (zY0 sc) 4 0 0 mX10_tunnel [.ref 1, .int p1, .int p2] (zE σ) (some (.int w), zE σ) := zC.of (by decide +kernel) (Nat.le_of_ble_eq_true rfl) ⟨_, rfl⟩ (eX10_tunnel σ p1 p2 w h)
theorem dX7_breathOf_0 : decode cX7_breathOf 0 = .ok (.aload_n 0, 1) := by decide +kernel
theorem dX7_breathOf_1 : decode cX7_breathOf 1 = .ok (.getfield 11, 3) := by decide +kernel
theorem dX7_breathOf_4 : decode cX7_breathOf 4 = .ok (.bipush 50, 2) := by decide +kernel
theorem dX7_breathOf_6 : decode cX7_breathOf 6 = .ok (.iload_n 1, 1) := by decide +kernel
theorem dX7_breathOf_7 : decode cX7_breathOf 7 = .ok (.iadd, 1) := by decide +kernel
theorem dX7_breathOf_8 : decode cX7_breathOf 8 = .ok (.invokestatic 32, 3) := by decide +kernel
theorem dX7_breathOf_11 : decode cX7_breathOf 11 = .ok (.ireturn, 1) := by decide +kernel
def fX7_breathOf (σ : zS) (p1 : Int32) : Option Int32 := aI σ 5 104 (50 + p1) fun v1 => some v1
theorem eX7_breathOf {sc : Nat × (Nat → Int32)} (σ : zS) (p1 : Int32) (w : Int32) (h : fX7_breathOf σ p1 = some w) : zR (zY0 sc) 2 0 0 mX7_breathOf 0 [(0, .ref 4), (1, .int p1)] [] (zE σ) (some (.int w), zE σ) := by
  unfold fX7_breathOf at h
  refine kR.aload_n dX7_breathOf_0 0 rfl ?_
  refine kR.getR (v := 5) dX7_breathOf_1 flX7_11 zcf7 zp4 (Or.inr ⟨_, rfl⟩) rfl ?_
  refine zR.bipush (v := 50) dX7_breathOf_4 (by decide) ?_
  refine kR.iload_n dX7_breathOf_6 1 rfl ?_
  refine zR.iadd dX7_breathOf_7 ?_
  obtain ⟨v1, e0, h⟩ := aIv (Nat.le_of_ble_eq_true rfl) h
  refine kR.cSi [.ref 5, .int (50 + p1)] dX7_breathOf_8 rfl (by decide) (Or.inr mwX7_32) rfl (Nat.le_of_ble_eq_true rfl) (lX10_valueAt 5 104 σ (fun _ => zp5) rfl (Nat.le_of_ble_eq_true rfl) (50 + p1) _ e0) ?_
  exact kR.iretO dX7_breathOf_11 (nzI rfl _) h
theorem lX7_breathOf {sc : Nat × (Nat → Int32)} (σ : zS) (p1 : Int32) (w : Int32) (h : fX7_breathOf σ p1 = some w) : zC (zY0 sc) 2 0 0 mX7_breathOf [.ref 4, .int p1] (zE σ) (some (.int w), zE σ) := zC.of (by decide +kernel) (Nat.le_of_ble_eq_true rfl) ⟨_, rfl⟩ (eX7_breathOf σ p1 w h)
theorem dX7_givesOf_0 : decode cX7_givesOf 0 = .ok (.aload_n 0, 1) := by decide +kernel
theorem dX7_givesOf_1 : decode cX7_givesOf 1 = .ok (.getfield 11, 3) := by decide +kernel
theorem dX7_givesOf_4 : decode cX7_givesOf 4 = .ok (.bipush 56, 2) := by decide +kernel
theorem dX7_givesOf_6 : decode cX7_givesOf 6 = .ok (.iload_n 1, 1) := by decide +kernel
theorem dX7_givesOf_7 : decode cX7_givesOf 7 = .ok (.iadd, 1) := by decide +kernel
theorem dX7_givesOf_8 : decode cX7_givesOf 8 = .ok (.invokestatic 32, 3) := by decide +kernel
theorem dX7_givesOf_11 : decode cX7_givesOf 11 = .ok (.ireturn, 1) := by decide +kernel
def fX7_givesOf (σ : zS) (p1 : Int32) : Option Int32 := aI σ 5 104 (56 + p1) fun v1 => some v1
theorem eX7_givesOf {sc : Nat × (Nat → Int32)} (σ : zS) (p1 : Int32) (w : Int32) (h : fX7_givesOf σ p1 = some w) : zR (zY0 sc) 2 0 0 mX7_givesOf 0 [(0, .ref 4), (1, .int p1)] [] (zE σ) (some (.int w), zE σ) := by
  unfold fX7_givesOf at h
  refine kR.aload_n dX7_givesOf_0 0 rfl ?_
  refine kR.getR (v := 5) dX7_givesOf_1 flX7_11 zcf7 zp4 (Or.inr ⟨_, rfl⟩) rfl ?_
  refine zR.bipush (v := 56) dX7_givesOf_4 (by decide) ?_
  refine kR.iload_n dX7_givesOf_6 1 rfl ?_
  refine zR.iadd dX7_givesOf_7 ?_
  obtain ⟨v1, e0, h⟩ := aIv (Nat.le_of_ble_eq_true rfl) h
  refine kR.cSi [.ref 5, .int (56 + p1)] dX7_givesOf_8 rfl (by decide) (Or.inr mwX7_32) rfl (Nat.le_of_ble_eq_true rfl) (lX10_valueAt 5 104 σ (fun _ => zp5) rfl (Nat.le_of_ble_eq_true rfl) (56 + p1) _ e0) ?_
  exact kR.iretO dX7_givesOf_11 (nzI rfl _) h
theorem lX7_givesOf {sc : Nat × (Nat → Int32)} (σ : zS) (p1 : Int32) (w : Int32) (h : fX7_givesOf σ p1 = some w) : zC (zY0 sc) 2 0 0 mX7_givesOf [.ref 4, .int p1] (zE σ) (some (.int w), zE σ) := zC.of (by decide +kernel) (Nat.le_of_ble_eq_true rfl) ⟨_, rfl⟩ (eX7_givesOf σ p1 w h)
theorem dX7_thinksOf_0 : decode cX7_thinksOf 0 = .ok (.aload_n 0, 1) := by decide +kernel
theorem dX7_thinksOf_1 : decode cX7_thinksOf 1 = .ok (.getfield 11, 3) := by decide +kernel
theorem dX7_thinksOf_4 : decode cX7_thinksOf 4 = .ok (.bipush 68, 2) := by decide +kernel
theorem dX7_thinksOf_6 : decode cX7_thinksOf 6 = .ok (.iload_n 1, 1) := by decide +kernel
theorem dX7_thinksOf_7 : decode cX7_thinksOf 7 = .ok (.bipush 6, 2) := by decide +kernel
theorem dX7_thinksOf_9 : decode cX7_thinksOf 9 = .ok (.imul, 1) := by decide +kernel
theorem dX7_thinksOf_10 : decode cX7_thinksOf 10 = .ok (.iadd, 1) := by decide +kernel
theorem dX7_thinksOf_11 : decode cX7_thinksOf 11 = .ok (.iload_n 2, 1) := by decide +kernel
theorem dX7_thinksOf_12 : decode cX7_thinksOf 12 = .ok (.iadd, 1) := by decide +kernel
theorem dX7_thinksOf_13 : decode cX7_thinksOf 13 = .ok (.invokestatic 32, 3) := by decide +kernel
theorem dX7_thinksOf_16 : decode cX7_thinksOf 16 = .ok (.ireturn, 1) := by decide +kernel
def fX7_thinksOf (σ : zS) (p1 : Int32) (p2 : Int32) : Option Int32 := aI σ 5 104 ((68 + (p1 * 6)) + p2) fun v1 => some v1
theorem eX7_thinksOf {sc : Nat × (Nat → Int32)} (σ : zS) (p1 : Int32) (p2 : Int32) (w : Int32) (h : fX7_thinksOf σ p1 p2 = some w) : zR (zY0 sc) 2 0 0 mX7_thinksOf 0 [(0, .ref 4), (1, .int p1), (2, .int p2)] [] (zE σ) (some (.int w), zE σ) := by
  unfold fX7_thinksOf at h
  refine kR.aload_n dX7_thinksOf_0 0 rfl ?_
  refine kR.getR (v := 5) dX7_thinksOf_1 flX7_11 zcf7 zp4 (Or.inr ⟨_, rfl⟩) rfl ?_
  refine zR.bipush (v := 68) dX7_thinksOf_4 (by decide) ?_
  refine kR.iload_n dX7_thinksOf_6 1 rfl ?_
  refine zR.bipush (v := 6) dX7_thinksOf_7 (by decide) ?_
  refine zR.imul dX7_thinksOf_9 ?_
  refine zR.iadd dX7_thinksOf_10 ?_
  refine kR.iload_n dX7_thinksOf_11 2 rfl ?_
  refine zR.iadd dX7_thinksOf_12 ?_
  obtain ⟨v1, e0, h⟩ := aIv (Nat.le_of_ble_eq_true rfl) h
  refine kR.cSi [.ref 5, .int ((68 + (p1 * 6)) + p2)] dX7_thinksOf_13 rfl (by decide) (Or.inr mwX7_32) rfl (Nat.le_of_ble_eq_true rfl) (lX10_valueAt 5 104 σ (fun _ => zp5) rfl (Nat.le_of_ble_eq_true rfl) ((68 + (p1 * 6)) + p2) _ e0) ?_
  exact kR.iretO dX7_thinksOf_16 (nzI rfl _) h
theorem lX7_thinksOf {sc : Nat × (Nat → Int32)} (σ : zS) (p1 : Int32) (p2 : Int32) (w : Int32) (h : fX7_thinksOf σ p1 p2 = some w) : zC (zY0 sc) 2 0 0 mX7_thinksOf [.ref 4, .int p1, .int p2] (zE σ) (some (.int w), zE σ) := zC.of (by decide +kernel) (Nat.le_of_ble_eq_true rfl) ⟨_, rfl⟩ (eX7_thinksOf σ p1 p2 w h)
theorem dX10_holder_0 : decode cX10_holder 0 = .ok (.aload_n 0, 1) := by decide +kernel
theorem dX10_holder_1 : decode cX10_holder 1 = .ok (.getfield 38, 3) := by decide +kernel
theorem dX10_holder_4 : decode cX10_holder 4 = .ok (.getfield 111, 3) := by decide +kernel
theorem dX10_holder_7 : decode cX10_holder 7 = .ok (.astore_n 3, 1) := by decide +kernel
theorem dX10_holder_8 : decode cX10_holder 8 = .ok (.aload_n 3, 1) := by decide +kernel
theorem dX10_holder_9 : decode cX10_holder 9 = .ok (.iload_n 1, 1) := by decide +kernel
theorem dX10_holder_10 : decode cX10_holder 10 = .ok (.invokevirtual 162, 3) := by decide +kernel
theorem dX10_holder_13 : decode cX10_holder 13 = .ok (.ifCond .ne 5, 3) := by decide +kernel
theorem dX10_holder_16 : decode cX10_holder 16 = .ok (.iconst (-1), 1) := by decide +kernel
theorem dX10_holder_17 : decode cX10_holder 17 = .ok (.ireturn, 1) := by decide +kernel
theorem dX10_holder_18 : decode cX10_holder 18 = .ok (.iload_n 2, 1) := by decide +kernel
theorem dX10_holder_19 : decode cX10_holder 19 = .ok (.bipush 10, 2) := by decide +kernel
theorem dX10_holder_21 : decode cX10_holder 21 = .ok (.if_icmp .lt 27, 3) := by decide +kernel
theorem dX10_holder_24 : decode cX10_holder 24 = .ok (.iload_n 2, 1) := by decide +kernel
theorem dX10_holder_25 : decode cX10_holder 25 = .ok (.bipush 10, 2) := by decide +kernel
theorem dX10_holder_27 : decode cX10_holder 27 = .ok (.aload_n 3, 1) := by decide +kernel
theorem dX10_holder_28 : decode cX10_holder 28 = .ok (.getfield 128, 3) := by decide +kernel
theorem dX10_holder_31 : decode cX10_holder 31 = .ok (.iadd, 1) := by decide +kernel
theorem dX10_holder_32 : decode cX10_holder 32 = .ok (.if_icmp .ge 16, 3) := by decide +kernel
theorem dX10_holder_35 : decode cX10_holder 35 = .ok (.aload_n 0, 1) := by decide +kernel
theorem dX10_holder_36 : decode cX10_holder 36 = .ok (.getfield 19, 3) := by decide +kernel
theorem dX10_holder_39 : decode cX10_holder 39 = .ok (.iload_n 1, 1) := by decide +kernel
theorem dX10_holder_40 : decode cX10_holder 40 = .ok (.iload_n 2, 1) := by decide +kernel
theorem dX10_holder_41 : decode cX10_holder 41 = .ok (.bipush 10, 2) := by decide +kernel
theorem dX10_holder_43 : decode cX10_holder 43 = .ok (.isub, 1) := by decide +kernel
theorem dX10_holder_44 : decode cX10_holder 44 = .ok (.invokevirtual 183, 3) := by decide +kernel
theorem dX10_holder_47 : decode cX10_holder 47 = .ok (.ireturn, 1) := by decide +kernel
theorem dX10_holder_48 : decode cX10_holder 48 = .ok (.iload_n 2, 1) := by decide +kernel
theorem dX10_holder_49 : decode cX10_holder 49 = .ok (.tableswitch 67 0 3 #[31, 40, 49, 58], 31) := by decide +kernel
theorem dX10_holder_80 : decode cX10_holder 80 = .ok (.aload_n 0, 1) := by decide +kernel
theorem dX10_holder_81 : decode cX10_holder 81 = .ok (.getfield 19, 3) := by decide +kernel
theorem dX10_holder_84 : decode cX10_holder 84 = .ok (.iload_n 1, 1) := by decide +kernel
theorem dX10_holder_85 : decode cX10_holder 85 = .ok (.invokevirtual 186, 3) := by decide +kernel
theorem dX10_holder_88 : decode cX10_holder 88 = .ok (.ireturn, 1) := by decide +kernel
theorem dX10_holder_89 : decode cX10_holder 89 = .ok (.aload_n 3, 1) := by decide +kernel
theorem dX10_holder_90 : decode cX10_holder 90 = .ok (.getfield 189, 3) := by decide +kernel
theorem dX10_holder_93 : decode cX10_holder 93 = .ok (.iload_n 1, 1) := by decide +kernel
theorem dX10_holder_94 : decode cX10_holder 94 = .ok (.invokestatic 154, 3) := by decide +kernel
theorem dX10_holder_97 : decode cX10_holder 97 = .ok (.ireturn, 1) := by decide +kernel
theorem dX10_holder_98 : decode cX10_holder 98 = .ok (.aload_n 3, 1) := by decide +kernel
theorem dX10_holder_99 : decode cX10_holder 99 = .ok (.getfield 192, 3) := by decide +kernel
theorem dX10_holder_102 : decode cX10_holder 102 = .ok (.iload_n 1, 1) := by decide +kernel
theorem dX10_holder_103 : decode cX10_holder 103 = .ok (.invokestatic 154, 3) := by decide +kernel
theorem dX10_holder_106 : decode cX10_holder 106 = .ok (.ireturn, 1) := by decide +kernel
theorem dX10_holder_107 : decode cX10_holder 107 = .ok (.aload_n 0, 1) := by decide +kernel
theorem dX10_holder_108 : decode cX10_holder 108 = .ok (.getfield 19, 3) := by decide +kernel
theorem dX10_holder_111 : decode cX10_holder 111 = .ok (.iload_n 1, 1) := by decide +kernel
theorem dX10_holder_112 : decode cX10_holder 112 = .ok (.invokevirtual 195, 3) := by decide +kernel
theorem dX10_holder_115 : decode cX10_holder 115 = .ok (.ireturn, 1) := by decide +kernel
theorem dX10_holder_116 : decode cX10_holder 116 = .ok (.iconst (-1), 1) := by decide +kernel
theorem dX10_holder_117 : decode cX10_holder 117 = .ok (.ireturn, 1) := by decide +kernel
def fX10_holder_48 (σ : zS) (x1 : Int32) (x2 : Int32) (c3 : Bool) : Option Int32 := if x2 = 0 then bnr (fX7_breathOf σ x1) fun v1 => some v1 else if x2 = 1 then aI σ (rp c3 + 7) 6 x1 fun v3 => some v3 else if x2 = 2 then aI σ (rp c3 + 8) 6 x1 fun v4 => some v4 else if x2 = 3 then bnr (fX7_givesOf σ x1) fun v5 => some v5 else some ((-1))
theorem kX10_holder_48 {sc : Nat × (Nat → Int32)} (σ : zS) (x1 : Int32) (x2 : Int32) (c3 : Bool) (w : Int32) (h : fX10_holder_48 σ x1 x2 c3 = some w) : zR (zY0 sc) 3 0 0 mX10_holder 48 [(0, .ref 1), (1, .int x1), (2, .int x2), (3, .ref (rp c3 + 0))] [] (zE σ) (some (.int w), zE σ) := by
  unfold fX10_holder_48 at h
  refine kR.iload_n dX10_holder_48 2 rfl ?_
  by_cases e0 : x2 = 0
  · rw [if_pos e0] at h
    refine zR.tableIn (off := 31) (tgt := 80) dX10_holder_49 (by rw [e0]; decide) (by rw [e0]; decide) (by rw [e0]; rfl) (by decide) ?_
    refine kR.aload_n dX10_holder_80 0 rfl ?_
    refine kR.getR (v := 4) dX10_holder_81 flX10_19 zcf10 zp1 (Or.inl ⟨_, rfl⟩) rfl ?_
    refine kR.iload_n dX10_holder_84 1 rfl ?_
    obtain ⟨v1, e2, h⟩ := bnr_some h
    refine kR.cVi [.int x1] dX10_holder_85 rfl (by decide) mwX10_186 zp4 (by decide) rfl rfl (Nat.le_of_ble_eq_true rfl) (lX7_breathOf σ x1 _ e2) ?_
    exact kR.iretO dX10_holder_88 (nzI rfl _) h
  rw [if_neg e0] at h
  by_cases e1 : x2 = 1
  · rw [if_pos e1] at h
    refine zR.tableIn (off := 40) (tgt := 89) dX10_holder_49 (by rw [e1]; decide) (by rw [e1]; decide) (by rw [e1]; rfl) (by decide) ?_
    refine kR.aload_n dX10_holder_89 3 rfl ?_
    refine kR.getR (v := (rp c3 + 7)) dX10_holder_90 flX10_189 zcf6 (zq0 c3) (Or.inr ⟨_, rfl⟩) (zr0_11 _ c3) ?_
    refine kR.iload_n dX10_holder_93 1 rfl ?_
    obtain ⟨v3, e0, h⟩ := aIv (Nat.le_of_ble_eq_true rfl) h
    refine kR.cSi [.ref (rp c3 + 7), .int x1] dX10_holder_94 rfl (by decide) (Or.inl mwX10_154) rfl (Nat.le_of_ble_eq_true rfl) (lX10_valueAt (rp c3 + 7) 6 σ (fun _ => (zq7 c3)) (zl7 c3) (Nat.le_of_ble_eq_true rfl) x1 _ e0) ?_
    exact kR.iretO dX10_holder_97 (nzI rfl _) h
  rw [if_neg e1] at h
  by_cases e2 : x2 = 2
  · rw [if_pos e2] at h
    refine zR.tableIn (off := 49) (tgt := 98) dX10_holder_49 (by rw [e2]; decide) (by rw [e2]; decide) (by rw [e2]; rfl) (by decide) ?_
    refine kR.aload_n dX10_holder_98 3 rfl ?_
    refine kR.getR (v := (rp c3 + 8)) dX10_holder_99 flX10_192 zcf6 (zq0 c3) (Or.inr ⟨_, rfl⟩) (zr0_12 _ c3) ?_
    refine kR.iload_n dX10_holder_102 1 rfl ?_
    obtain ⟨v4, e0, h⟩ := aIv (Nat.le_of_ble_eq_true rfl) h
    refine kR.cSi [.ref (rp c3 + 8), .int x1] dX10_holder_103 rfl (by decide) (Or.inl mwX10_154) rfl (Nat.le_of_ble_eq_true rfl) (lX10_valueAt (rp c3 + 8) 6 σ (fun _ => (zq8 c3)) (zl8 c3) (Nat.le_of_ble_eq_true rfl) x1 _ e0) ?_
    exact kR.iretO dX10_holder_106 (nzI rfl _) h
  rw [if_neg e2] at h
  by_cases e3 : x2 = 3
  · rw [if_pos e3] at h
    refine zR.tableIn (off := 58) (tgt := 107) dX10_holder_49 (by rw [e3]; decide) (by rw [e3]; decide) (by rw [e3]; rfl) (by decide) ?_
    refine kR.aload_n dX10_holder_107 0 rfl ?_
    refine kR.getR (v := 4) dX10_holder_108 flX10_19 zcf10 zp1 (Or.inl ⟨_, rfl⟩) rfl ?_
    refine kR.iload_n dX10_holder_111 1 rfl ?_
    obtain ⟨v5, e6, h⟩ := bnr_some h
    refine kR.cVi [.int x1] dX10_holder_112 rfl (by decide) mwX10_195 zp4 (by decide) rfl rfl (Nat.le_of_ble_eq_true rfl) (lX7_givesOf σ x1 _ e6) ?_
    exact kR.iretO dX10_holder_115 (nzI rfl _) h
  rw [if_neg e3] at h
  refine zR.tableD (tgt := 116) dX10_holder_49 (ts_out 4 (by decide) (fun j hj e => match j, hj, e with | 0, _, e => absurd e (tne e0 rfl) | 1, _, e => absurd e (tne e1 rfl) | 2, _, e => absurd e (tne e2 rfl) | 3, _, e => absurd e (tne e3 rfl) | j + 4, hj, _ => absurd hj (by omega))) (by decide) ?_
  refine zR.iconst (v := (-1)) dX10_holder_116 (by decide) ?_
  exact kR.iretO dX10_holder_117 (nzI rfl _) h
def fX10_holder (σ : zS) (p1 : Int32) (p2 : Int32) : Option Int32 := if (fX6_hasHolder σ.2.2.2.1 σ p1) = 0 then some ((-1)) else if p2 < 10 then fX10_holder_48 σ p1 p2 σ.2.2.2.1 else if (10 + (iG σ (rp σ.2.2.2.1 + 0) 1)) ≤ p2 then fX10_holder_48 σ p1 p2 σ.2.2.2.1 else bnr (fX7_thinksOf σ p1 (p2 - 10)) fun v7 => some v7
theorem eX10_holder {sc : Nat × (Nat → Int32)} (σ : zS) (p1 : Int32) (p2 : Int32) (w : Int32) (h : fX10_holder σ p1 p2 = some w) : zR (zY0 sc) 3 0 0 mX10_holder 0 [(0, .ref 1), (1, .int p1), (2, .int p2)] [] (zE σ) (some (.int w), zE σ) := by
  unfold fX10_holder at h
  refine kR.aload_n dX10_holder_0 0 rfl ?_
  refine kR.getR (v := 8) dX10_holder_1 flX10_38 zcf10 zp1 (Or.inl ⟨_, rfl⟩) rfl ?_
  refine kR.getR (v := (rp σ.2.2.2.1 + 0)) dX10_holder_4 flX10_111 zcf4 zp8 (Or.inl ⟨_, rfl⟩) rfl ?_
  refine zR.astore_n (i := 3) (ls' := [(3, .ref (rp σ.2.2.2.1 + 0)), (0, .ref 1), (1, .int p1), (2, .int p2)]) dX10_holder_7 rfl (by decide) rfl ?_
  refine kR.aload_n dX10_holder_8 0 rfl ?_
  refine kR.iload_n dX10_holder_9 2 rfl ?_
  refine kR.cVi [.int p1] dX10_holder_10 rfl (by decide) mwX10_162 (zq0 σ.2.2.2.1) (by decide) rfl rfl (Nat.le_of_ble_eq_true rfl) (lX6_hasHolder σ.2.2.2.1 σ p1) ?_
  refine kR.if_ne (tgt := 18) dX10_holder_13 (by decide) h (fun h => ?_) (fun h => ?_)
  · refine kR.iload_n dX10_holder_18 3 rfl ?_
    refine zR.bipush (v := 10) dX10_holder_19 (by decide) ?_
    refine kR.icmp_lt (tgt := 48) dX10_holder_21 (by decide) h (fun h => ?_) (fun h => ?_)
    · refine zR.sub [1, 2, 3, 0] rfl ?_
      exact kX10_holder_48 σ _ _ _ _ h
    · refine kR.iload_n dX10_holder_24 3 rfl ?_
      refine zR.bipush (v := 10) dX10_holder_25 (by decide) ?_
      refine kR.aload_n dX10_holder_27 0 rfl ?_
      refine kR.getI dX10_holder_28 flX10_128 zcf6 (zq0 σ.2.2.2.1) (Or.inl rfl) ?_
      refine zR.iadd dX10_holder_31 ?_
      refine kR.icmp_ge (tgt := 48) dX10_holder_32 (by decide) h (fun h => ?_) (fun h => ?_)
      · refine zR.sub [1, 2, 3, 0] rfl ?_
        exact kX10_holder_48 σ _ _ _ _ h
      · refine kR.aload_n dX10_holder_35 1 rfl ?_
        refine kR.getR (v := 4) dX10_holder_36 flX10_19 zcf10 zp1 (Or.inl ⟨_, rfl⟩) rfl ?_
        refine kR.iload_n dX10_holder_39 2 rfl ?_
        refine kR.iload_n dX10_holder_40 3 rfl ?_
        refine zR.bipush (v := 10) dX10_holder_41 (by decide) ?_
        refine zR.isub dX10_holder_43 ?_
        obtain ⟨v7, e8, h⟩ := bnr_some h
        refine kR.cVi [.int p1, .int (p2 - 10)] dX10_holder_44 rfl (by decide) mwX10_183 zp4 (by decide) rfl rfl (Nat.le_of_ble_eq_true rfl) (lX7_thinksOf σ p1 (p2 - 10) _ e8) ?_
        exact kR.iretO dX10_holder_47 (nzI rfl _) h
  · refine zR.iconst (v := (-1)) dX10_holder_16 (by decide) ?_
    exact kR.iretO dX10_holder_17 (nzI rfl _) h
theorem lX10_holder {sc : Nat × (Nat → Int32)} (σ : zS) (p1 : Int32) (p2 : Int32) (w : Int32) (h : fX10_holder σ p1 p2 = some w) : zC (zY0 sc) 3 0 0 mX10_holder [.ref 1, .int p1, .int p2] (zE σ) (some (.int w), zE σ) := zC.of (by decide +kernel) (Nat.le_of_ble_eq_true rfl) ⟨_, rfl⟩ (eX10_holder σ p1 p2 w h)
theorem dX7_scoreOf_0 : decode cX7_scoreOf 0 = .ok (.aload_n 0, 1) := by decide +kernel
theorem dX7_scoreOf_1 : decode cX7_scoreOf 1 = .ok (.getfield 11, 3) := by decide +kernel
theorem dX7_scoreOf_4 : decode cX7_scoreOf 4 = .ok (.bipush 62, 2) := by decide +kernel
theorem dX7_scoreOf_6 : decode cX7_scoreOf 6 = .ok (.iload_n 1, 1) := by decide +kernel
theorem dX7_scoreOf_7 : decode cX7_scoreOf 7 = .ok (.iadd, 1) := by decide +kernel
theorem dX7_scoreOf_8 : decode cX7_scoreOf 8 = .ok (.invokestatic 32, 3) := by decide +kernel
theorem dX7_scoreOf_11 : decode cX7_scoreOf 11 = .ok (.ireturn, 1) := by decide +kernel
def fX7_scoreOf (σ : zS) (p1 : Int32) : Option Int32 := aI σ 5 104 (62 + p1) fun v1 => some v1
theorem eX7_scoreOf {sc : Nat × (Nat → Int32)} (σ : zS) (p1 : Int32) (w : Int32) (h : fX7_scoreOf σ p1 = some w) : zR (zY0 sc) 2 0 0 mX7_scoreOf 0 [(0, .ref 4), (1, .int p1)] [] (zE σ) (some (.int w), zE σ) := by
  unfold fX7_scoreOf at h
  refine kR.aload_n dX7_scoreOf_0 0 rfl ?_
  refine kR.getR (v := 5) dX7_scoreOf_1 flX7_11 zcf7 zp4 (Or.inr ⟨_, rfl⟩) rfl ?_
  refine zR.bipush (v := 62) dX7_scoreOf_4 (by decide) ?_
  refine kR.iload_n dX7_scoreOf_6 1 rfl ?_
  refine zR.iadd dX7_scoreOf_7 ?_
  obtain ⟨v1, e0, h⟩ := aIv (Nat.le_of_ble_eq_true rfl) h
  refine kR.cSi [.ref 5, .int (62 + p1)] dX7_scoreOf_8 rfl (by decide) (Or.inr mwX7_32) rfl (Nat.le_of_ble_eq_true rfl) (lX10_valueAt 5 104 σ (fun _ => zp5) rfl (Nat.le_of_ble_eq_true rfl) (62 + p1) _ e0) ?_
  exact kR.iretO dX7_scoreOf_11 (nzI rfl _) h
theorem lX7_scoreOf {sc : Nat × (Nat → Int32)} (σ : zS) (p1 : Int32) (w : Int32) (h : fX7_scoreOf σ p1 = some w) : zC (zY0 sc) 2 0 0 mX7_scoreOf [.ref 4, .int p1] (zE σ) (some (.int w), zE σ) := zC.of (by decide +kernel) (Nat.le_of_ble_eq_true rfl) ⟨_, rfl⟩ (eX7_scoreOf σ p1 w h)
theorem dX10_score_0 : decode cX10_score 0 = .ok (.aload_n 0, 1) := by decide +kernel
theorem dX10_score_1 : decode cX10_score 1 = .ok (.getfield 38, 3) := by decide +kernel
theorem dX10_score_4 : decode cX10_score 4 = .ok (.getfield 111, 3) := by decide +kernel
theorem dX10_score_7 : decode cX10_score 7 = .ok (.iload_n 1, 1) := by decide +kernel
theorem dX10_score_8 : decode cX10_score 8 = .ok (.invokevirtual 162, 3) := by decide +kernel
theorem dX10_score_11 : decode cX10_score 11 = .ok (.ifCond .eq 14, 3) := by decide +kernel
theorem dX10_score_14 : decode cX10_score 14 = .ok (.aload_n 0, 1) := by decide +kernel
theorem dX10_score_15 : decode cX10_score 15 = .ok (.getfield 19, 3) := by decide +kernel
theorem dX10_score_18 : decode cX10_score 18 = .ok (.iload_n 1, 1) := by decide +kernel
theorem dX10_score_19 : decode cX10_score 19 = .ok (.invokevirtual 198, 3) := by decide +kernel
theorem dX10_score_22 : decode cX10_score 22 = .ok (.goto 5, 3) := by decide +kernel
theorem dX10_score_25 : decode cX10_score 25 = .ok (.ldc 201, 2) := by decide +kernel
theorem dX10_score_27 : decode cX10_score 27 = .ok (.ireturn, 1) := by decide +kernel
def fX10_score (σ : zS) (p1 : Int32) : Option Int32 := if (fX6_hasHolder σ.2.2.2.1 σ p1) = 0 then some ((-1000000000)) else bnr (fX7_scoreOf σ p1) fun v1 => some v1
theorem eX10_score {sc : Nat × (Nat → Int32)} (σ : zS) (p1 : Int32) (w : Int32) (h : fX10_score σ p1 = some w) : zR (zY0 sc) 3 0 0 mX10_score 0 [(0, .ref 1), (1, .int p1)] [] (zE σ) (some (.int w), zE σ) := by
  unfold fX10_score at h
  refine kR.aload_n dX10_score_0 0 rfl ?_
  refine kR.getR (v := 8) dX10_score_1 flX10_38 zcf10 zp1 (Or.inl ⟨_, rfl⟩) rfl ?_
  refine kR.getR (v := (rp σ.2.2.2.1 + 0)) dX10_score_4 flX10_111 zcf4 zp8 (Or.inl ⟨_, rfl⟩) rfl ?_
  refine kR.iload_n dX10_score_7 1 rfl ?_
  refine kR.cVi [.int p1] dX10_score_8 rfl (by decide) mwX10_162 (zq0 σ.2.2.2.1) (by decide) rfl rfl (Nat.le_of_ble_eq_true rfl) (lX6_hasHolder σ.2.2.2.1 σ p1) ?_
  refine kR.if_eq (tgt := 25) dX10_score_11 (by decide) h (fun h => ?_) (fun h => ?_)
  · refine zR.ldc (v := (-1000000000)) dX10_score_25 ciX10_201 ?_
    exact kR.iretO dX10_score_27 (nzI rfl _) h
  · refine kR.aload_n dX10_score_14 0 rfl ?_
    refine kR.getR (v := 4) dX10_score_15 flX10_19 zcf10 zp1 (Or.inl ⟨_, rfl⟩) rfl ?_
    refine kR.iload_n dX10_score_18 1 rfl ?_
    obtain ⟨v1, e2, h⟩ := bnr_some h
    refine kR.cVi [.int p1] dX10_score_19 rfl (by decide) mwX10_198 zp4 (by decide) rfl rfl (Nat.le_of_ble_eq_true rfl) (lX7_scoreOf σ p1 _ e2) ?_
    refine zR.goto (tgt := 27) dX10_score_22 (by decide) ?_
    exact kR.iretO dX10_score_27 (nzI rfl _) h
theorem lX10_score {sc : Nat × (Nat → Int32)} (σ : zS) (p1 : Int32) (w : Int32) (h : fX10_score σ p1 = some w) : zC (zY0 sc) 3 0 0 mX10_score [.ref 1, .int p1] (zE σ) (some (.int w), zE σ) := zC.of (by decide +kernel) (Nat.le_of_ble_eq_true rfl) ⟨_, rfl⟩ (eX10_score σ p1 w h)
theorem dJ9_floorDiv_f86c9_0 : decode cJ9_floorDiv_f86c9 0 = .ok (.lload_n 0, 1) := by decide +kernel
theorem dJ9_floorDiv_f86c9_1 : decode cJ9_floorDiv_f86c9 1 = .ok (.lload_n 2, 1) := by decide +kernel
theorem dJ9_floorDiv_f86c9_2 : decode cJ9_floorDiv_f86c9 2 = .ok (.ldiv, 1) := by decide +kernel
theorem dJ9_floorDiv_f86c9_3 : decode cJ9_floorDiv_f86c9 3 = .ok (.lstore 4, 2) := by decide +kernel
theorem dJ9_floorDiv_f86c9_5 : decode cJ9_floorDiv_f86c9 5 = .ok (.lload_n 0, 1) := by decide +kernel
theorem dJ9_floorDiv_f86c9_6 : decode cJ9_floorDiv_f86c9 6 = .ok (.lload_n 2, 1) := by decide +kernel
theorem dJ9_floorDiv_f86c9_7 : decode cJ9_floorDiv_f86c9 7 = .ok (.lxor, 1) := by decide +kernel
theorem dJ9_floorDiv_f86c9_8 : decode cJ9_floorDiv_f86c9 8 = .ok (.lconst 0, 1) := by decide +kernel
theorem dJ9_floorDiv_f86c9_9 : decode cJ9_floorDiv_f86c9 9 = .ok (.lcmp, 1) := by decide +kernel
theorem dJ9_floorDiv_f86c9_10 : decode cJ9_floorDiv_f86c9 10 = .ok (.ifCond .ge 17, 3) := by decide +kernel
theorem dJ9_floorDiv_f86c9_13 : decode cJ9_floorDiv_f86c9 13 = .ok (.lload 4, 2) := by decide +kernel
theorem dJ9_floorDiv_f86c9_15 : decode cJ9_floorDiv_f86c9 15 = .ok (.lload_n 2, 1) := by decide +kernel
theorem dJ9_floorDiv_f86c9_16 : decode cJ9_floorDiv_f86c9 16 = .ok (.lmul, 1) := by decide +kernel
theorem dJ9_floorDiv_f86c9_17 : decode cJ9_floorDiv_f86c9 17 = .ok (.lload_n 0, 1) := by decide +kernel
theorem dJ9_floorDiv_f86c9_18 : decode cJ9_floorDiv_f86c9 18 = .ok (.lcmp, 1) := by decide +kernel
theorem dJ9_floorDiv_f86c9_19 : decode cJ9_floorDiv_f86c9 19 = .ok (.ifCond .eq 8, 3) := by decide +kernel
theorem dJ9_floorDiv_f86c9_22 : decode cJ9_floorDiv_f86c9 22 = .ok (.lload 4, 2) := by decide +kernel
theorem dJ9_floorDiv_f86c9_24 : decode cJ9_floorDiv_f86c9 24 = .ok (.lconst 1, 1) := by decide +kernel
theorem dJ9_floorDiv_f86c9_25 : decode cJ9_floorDiv_f86c9 25 = .ok (.lsub, 1) := by decide +kernel
theorem dJ9_floorDiv_f86c9_26 : decode cJ9_floorDiv_f86c9 26 = .ok (.lreturn, 1) := by decide +kernel
theorem dJ9_floorDiv_f86c9_27 : decode cJ9_floorDiv_f86c9 27 = .ok (.lload 4, 2) := by decide +kernel
theorem dJ9_floorDiv_f86c9_29 : decode cJ9_floorDiv_f86c9 29 = .ok (.lreturn, 1) := by decide +kernel
def fJ9_floorDiv_f86c9 (p0 : Int64) (p2 : Int64) : Option Int64 := gd (¬ p2 = 0) (if 0 ≤ (p0 ^^^ p2) then some (p0 / p2) else if ((p0 / p2) * p2) = p0 then some (p0 / p2) else some ((p0 / p2) - 1))
theorem eJ9_floorDiv_f86c9 {sc : Nat × (Nat → Int32)} {μ : zM} (p0 : Int64) (p2 : Int64) (w : Int64) (h : fJ9_floorDiv_f86c9 p0 p2 = some w) : zR (zY0 sc) 1 0 0 mJ9_floorDiv_f86c9 0 [(0, .long p0), (2, .long p2)] [] μ (some (.long w), μ) := by
  unfold fJ9_floorDiv_f86c9 at h
  refine kR.lload_n dJ9_floorDiv_f86c9_0 0 rfl ?_
  refine kR.lload_n dJ9_floorDiv_f86c9_1 1 rfl ?_
  refine kR.ldiv dJ9_floorDiv_f86c9_2 h (fun h => ?_)
  refine zR.lstore (i := 4) (ls' := [(4, .long (p0 / p2)), (0, .long p0), (2, .long p2)]) dJ9_floorDiv_f86c9_3 (by decide) rfl ?_
  refine kR.lload_n dJ9_floorDiv_f86c9_5 1 rfl ?_
  refine kR.lload_n dJ9_floorDiv_f86c9_6 2 rfl ?_
  refine zR.lxor dJ9_floorDiv_f86c9_7 ?_
  refine zR.lconst (v := 0) dJ9_floorDiv_f86c9_8 (by decide) ?_
  refine kR.lcmp_ge (tgt := 27) dJ9_floorDiv_f86c9_9 dJ9_floorDiv_f86c9_10 (by decide) h (fun h => ?_) (fun h => ?_)
  · refine kR.lload dJ9_floorDiv_f86c9_27 0 rfl ?_
    exact kR.lretO dJ9_floorDiv_f86c9_29 h
  · refine kR.lload dJ9_floorDiv_f86c9_13 0 rfl ?_
    refine kR.lload_n dJ9_floorDiv_f86c9_15 2 rfl ?_
    refine zR.lmul dJ9_floorDiv_f86c9_16 ?_
    refine kR.lload_n dJ9_floorDiv_f86c9_17 1 rfl ?_
    refine kR.lcmp_eq (tgt := 27) dJ9_floorDiv_f86c9_18 dJ9_floorDiv_f86c9_19 (by decide) h (fun h => ?_) (fun h => ?_)
    · refine kR.lload dJ9_floorDiv_f86c9_27 0 rfl ?_
      exact kR.lretO dJ9_floorDiv_f86c9_29 h
    · refine kR.lload dJ9_floorDiv_f86c9_22 0 rfl ?_
      refine zR.lconst (v := 1) dJ9_floorDiv_f86c9_24 (by decide) ?_
      refine zR.lsub dJ9_floorDiv_f86c9_25 ?_
      exact kR.lretO dJ9_floorDiv_f86c9_26 h
theorem lJ9_floorDiv_f86c9 {sc : Nat × (Nat → Int32)} {μ : zM} (p0 : Int64) (p2 : Int64) (w : Int64) (h : fJ9_floorDiv_f86c9 p0 p2 = some w) : zC (zY0 sc) 1 0 0 mJ9_floorDiv_f86c9 [.long p0, .long p2] μ (some (.long w), μ) := zC.of (by decide +kernel) (Nat.le_of_ble_eq_true rfl) rfl (eJ9_floorDiv_f86c9 p0 p2 w h)
theorem dX10_thousandths_0 : decode cX10_thousandths 0 = .ok (.lload_n 2, 1) := by decide +kernel
theorem dX10_thousandths_1 : decode cX10_thousandths 1 = .ok (.lconst 0, 1) := by decide +kernel
theorem dX10_thousandths_2 : decode cX10_thousandths 2 = .ok (.lcmp, 1) := by decide +kernel
theorem dX10_thousandths_3 : decode cX10_thousandths 3 = .ok (.ifCond .le 16, 3) := by decide +kernel
theorem dX10_thousandths_6 : decode cX10_thousandths 6 = .ok (.ldc2_w 364, 3) := by decide +kernel
theorem dX10_thousandths_9 : decode cX10_thousandths 9 = .ok (.lload_n 0, 1) := by decide +kernel
theorem dX10_thousandths_10 : decode cX10_thousandths 10 = .ok (.lmul, 1) := by decide +kernel
theorem dX10_thousandths_11 : decode cX10_thousandths 11 = .ok (.lload_n 2, 1) := by decide +kernel
theorem dX10_thousandths_12 : decode cX10_thousandths 12 = .ok (.invokestatic 366, 3) := by decide +kernel
theorem dX10_thousandths_15 : decode cX10_thousandths 15 = .ok (.l2i, 1) := by decide +kernel
theorem dX10_thousandths_16 : decode cX10_thousandths 16 = .ok (.goto 4, 3) := by decide +kernel
theorem dX10_thousandths_19 : decode cX10_thousandths 19 = .ok (.iconst 0, 1) := by decide +kernel
theorem dX10_thousandths_20 : decode cX10_thousandths 20 = .ok (.ireturn, 1) := by decide +kernel
def fX10_thousandths (p0 : Int64) (p2 : Int64) : Option Int32 := if p2 ≤ 0 then some 0 else bnr (fJ9_floorDiv_f86c9 (1000 * p0) p2) fun v1 => some (((v1) : Int64).toInt32)
theorem eX10_thousandths {sc : Nat × (Nat → Int32)} {μ : zM} (p0 : Int64) (p2 : Int64) (w : Int32) (h : fX10_thousandths p0 p2 = some w) : zR (zY0 sc) 2 0 0 mX10_thousandths 0 [(0, .long p0), (2, .long p2)] [] μ (some (.int w), μ) := by
  unfold fX10_thousandths at h
  refine kR.lload_n dX10_thousandths_0 1 rfl ?_
  refine zR.lconst (v := 0) dX10_thousandths_1 (by decide) ?_
  refine kR.lcmp_le (tgt := 19) dX10_thousandths_2 dX10_thousandths_3 (by decide) h (fun h => ?_) (fun h => ?_)
  · refine zR.iconst (v := 0) dX10_thousandths_19 (by decide) ?_
    exact kR.iretO dX10_thousandths_20 (nzI rfl _) h
  · refine zR.ldc2 (v := 1000) dX10_thousandths_6 clX10_364 ?_
    refine kR.lload_n dX10_thousandths_9 0 rfl ?_
    refine zR.lmul dX10_thousandths_10 ?_
    refine kR.lload_n dX10_thousandths_11 1 rfl ?_
    obtain ⟨v1, e2, h⟩ := bnr_some h
    refine kR.cSl [.long (1000 * p0), .long p2] dX10_thousandths_12 rfl (by decide) (Or.inl mwX10_366) rfl (Nat.le_of_ble_eq_true rfl) (lJ9_floorDiv_f86c9 (1000 * p0) p2 _ e2) ?_
    refine zR.l2i dX10_thousandths_15 ?_
    refine zR.goto (tgt := 20) dX10_thousandths_16 (by decide) ?_
    exact kR.iretO dX10_thousandths_20 (nzI rfl _) h
theorem lX10_thousandths {sc : Nat × (Nat → Int32)} {μ : zM} (p0 : Int64) (p2 : Int64) (w : Int32) (h : fX10_thousandths p0 p2 = some w) : zC (zY0 sc) 2 0 0 mX10_thousandths [.long p0, .long p2] μ (some (.int w), μ) := zC.of (by decide +kernel) (Nat.le_of_ble_eq_true rfl) ⟨_, rfl⟩ (eX10_thousandths p0 p2 w h)
theorem dX10_likely_0 : decode cX10_likely 0 = .ok (.aload_n 0, 1) := by decide +kernel
theorem dX10_likely_1 : decode cX10_likely 1 = .ok (.getfield 38, 3) := by decide +kernel
theorem dX10_likely_4 : decode cX10_likely 4 = .ok (.getfield 111, 3) := by decide +kernel
theorem dX10_likely_7 : decode cX10_likely 7 = .ok (.astore_n 3, 1) := by decide +kernel
theorem dX10_likely_8 : decode cX10_likely 8 = .ok (.aload_n 3, 1) := by decide +kernel
theorem dX10_likely_9 : decode cX10_likely 9 = .ok (.iload_n 1, 1) := by decide +kernel
theorem dX10_likely_10 : decode cX10_likely 10 = .ok (.invokevirtual 147, 3) := by decide +kernel
theorem dX10_likely_13 : decode cX10_likely 13 = .ok (.ifCond .eq 7, 3) := by decide +kernel
theorem dX10_likely_16 : decode cX10_likely 16 = .ok (.iload_n 2, 1) := by decide +kernel
theorem dX10_likely_17 : decode cX10_likely 17 = .ok (.ifCond .ge 5, 3) := by decide +kernel
theorem dX10_likely_20 : decode cX10_likely 20 = .ok (.iconst (-1), 1) := by decide +kernel
theorem dX10_likely_21 : decode cX10_likely 21 = .ok (.ireturn, 1) := by decide +kernel
theorem dX10_likely_22 : decode cX10_likely 22 = .ok (.iconst 0, 1) := by decide +kernel
theorem dX10_likely_23 : decode cX10_likely 23 = .ok (.istore 4, 2) := by decide +kernel
theorem dX10_likely_25 : decode cX10_likely 25 = .ok (.iconst 0, 1) := by decide +kernel
theorem dX10_likely_26 : decode cX10_likely 26 = .ok (.istore 5, 2) := by decide +kernel
theorem dX10_likely_28 : decode cX10_likely 28 = .ok (.iload 5, 2) := by decide +kernel
theorem dX10_likely_30 : decode cX10_likely 30 = .ok (.aload_n 3, 1) := by decide +kernel
theorem dX10_likely_31 : decode cX10_likely 31 = .ok (.iload_n 1, 1) := by decide +kernel
theorem dX10_likely_32 : decode cX10_likely 32 = .ok (.invokevirtual 168, 3) := by decide +kernel
theorem dX10_likely_35 : decode cX10_likely 35 = .ok (.if_icmp .ge 32, 3) := by decide +kernel
theorem dX10_likely_38 : decode cX10_likely 38 = .ok (.aload_n 3, 1) := by decide +kernel
theorem dX10_likely_39 : decode cX10_likely 39 = .ok (.iload_n 1, 1) := by decide +kernel
theorem dX10_likely_40 : decode cX10_likely 40 = .ok (.iload 5, 2) := by decide +kernel
theorem dX10_likely_42 : decode cX10_likely 42 = .ok (.invokevirtual 171, 3) := by decide +kernel
theorem dX10_likely_45 : decode cX10_likely 45 = .ok (.iload_n 2, 1) := by decide +kernel
theorem dX10_likely_46 : decode cX10_likely 46 = .ok (.if_icmp .le 15, 3) := by decide +kernel
theorem dX10_likely_49 : decode cX10_likely 49 = .ok (.iload 4, 2) := by decide +kernel
theorem dX10_likely_51 : decode cX10_likely 51 = .ok (.aload_n 3, 1) := by decide +kernel
theorem dX10_likely_52 : decode cX10_likely 52 = .ok (.iload_n 1, 1) := by decide +kernel
theorem dX10_likely_53 : decode cX10_likely 53 = .ok (.iload 5, 2) := by decide +kernel
theorem dX10_likely_55 : decode cX10_likely 55 = .ok (.invokevirtual 174, 3) := by decide +kernel
theorem dX10_likely_58 : decode cX10_likely 58 = .ok (.iadd, 1) := by decide +kernel
theorem dX10_likely_59 : decode cX10_likely 59 = .ok (.istore 4, 2) := by decide +kernel
theorem dX10_likely_61 : decode cX10_likely 61 = .ok (.iinc 5 1, 3) := by decide +kernel
theorem dX10_likely_64 : decode cX10_likely 64 = .ok (.goto (-36), 3) := by decide +kernel
theorem dX10_likely_67 : decode cX10_likely 67 = .ok (.iload 4, 2) := by decide +kernel
theorem dX10_likely_69 : decode cX10_likely 69 = .ok (.i2l, 1) := by decide +kernel
theorem dX10_likely_70 : decode cX10_likely 70 = .ok (.aload_n 3, 1) := by decide +kernel
theorem dX10_likely_71 : decode cX10_likely 71 = .ok (.iload_n 1, 1) := by decide +kernel
theorem dX10_likely_72 : decode cX10_likely 72 = .ok (.invokevirtual 180, 3) := by decide +kernel
theorem dX10_likely_75 : decode cX10_likely 75 = .ok (.i2l, 1) := by decide +kernel
theorem dX10_likely_76 : decode cX10_likely 76 = .ok (.invokestatic 202, 3) := by decide +kernel
theorem dX10_likely_79 : decode cX10_likely 79 = .ok (.ireturn, 1) := by decide +kernel
def fX10_likely_62 (σ : zS) (r28 : Int32 → Int32 → Bool → Int32 → Int32 → Option Int32) (x1 : Int32) (x2 : Int32) (c3 : Bool) (x4 : Int32) (x5 : Int32) : Option Int32 := r28 x1 x2 c3 x4 (x5 + 1)
theorem kX10_likely_61 {sc : Nat × (Nat → Int32)} (σ : zS) (r28 : Int32 → Int32 → Bool → Int32 → Int32 → Option Int32) (hr28 : ∀ (x1 : Int32) (x2 : Int32) (c3 : Bool) (x4 : Int32) (x5 : Int32) (w : Int32), r28 x1 x2 c3 x4 x5 = some w → zR (zY0 sc) 4 0 0 mX10_likely 28 [(1, .int x1), (2, .int x2), (3, .ref (rp c3 + 0)), (4, .int x4), (5, .int x5)] [] (zE σ) (some (.int w), zE σ)) (x1 : Int32) (x2 : Int32) (c3 : Bool) (x4 : Int32) (x5 : Int32) (w : Int32) (h : fX10_likely_62 σ r28 x1 x2 c3 x4 x5 = some w) : zR (zY0 sc) 4 0 0 mX10_likely 61 [(1, .int x1), (2, .int x2), (3, .ref (rp c3 + 0)), (4, .int x4), (5, .int x5)] [] (zE σ) (some (.int w), zE σ) := by
  unfold fX10_likely_62 at h
  refine zR.iinc 4 (v := x5 + 1) (ls' := [(5, .int (x5 + 1)), (1, .int x1), (2, .int x2), (3, .ref (rp c3 + 0)), (4, .int x4)]) dX10_likely_61 rfl rfl (by decide) rfl ?_
  refine zR.goto (tgt := 28) dX10_likely_64 (by decide) ?_
  refine zR.sub [1, 2, 3, 4, 0] rfl ?_
  exact hr28 _ _ _ _ _ _ h
def fX10_likely_28 (σ : zS) : Nat → Int32 → Int32 → Bool → Int32 → Int32 → Option Int32
  | 0, _, _, _, _, _ => none
  | f + 1, x1, x2, c3, x4, x5 => aI σ (rp c3 + 3) 6 x1 fun v1 => if v1 ≤ x5 then bnr (fX6_allWeights c3 σ x1) fun v2 => bnr (fX10_thousandths x4.toInt64 v2.toInt64) fun v4 => some v4 else bnr (fX6_lengthAt c3 σ x1 x5) fun v6 => if v6 ≤ x2 then fX10_likely_62 σ (fX10_likely_28 σ f) x1 x2 c3 x4 x5 else bnr (fX6_weightAt c3 σ x1 x5) fun v8 => fX10_likely_62 σ (fX10_likely_28 σ f) x1 x2 c3 (x4 + v8) x5
theorem kX10_likely_28 {sc : Nat × (Nat → Int32)} (σ : zS) : ∀ (fuel : Nat) (x1 : Int32) (x2 : Int32) (c3 : Bool) (x4 : Int32) (x5 : Int32) (w : Int32) (h : fX10_likely_28 σ fuel x1 x2 c3 x4 x5 = some w), zR (zY0 sc) 4 0 0 mX10_likely 28 [(1, .int x1), (2, .int x2), (3, .ref (rp c3 + 0)), (4, .int x4), (5, .int x5)] [] (zE σ) (some (.int w), zE σ) := by
  intro fuel
  induction fuel with
  | zero => intro x1 x2 c3 x4 x5 w h; exact nomatch h
  | succ f ih =>
    intro x1 x2 c3 x4 x5 w h
    rw [fX10_likely_28] at h
    refine kR.iload dX10_likely_28 4 rfl ?_
    refine kR.aload_n dX10_likely_30 2 rfl ?_
    refine kR.iload_n dX10_likely_31 0 rfl ?_
    obtain ⟨v1, e0, h⟩ := aIlc h
    refine kR.cVi [.int x1] dX10_likely_32 rfl (by decide) mwX10_168 (zq0 c3) (by decide) rfl rfl (Nat.le_of_ble_eq_true rfl) (lX6_lengthCount c3 σ x1 _ e0) ?_
    refine kR.icmp_ge (tgt := 67) dX10_likely_35 (by decide) h (fun h => ?_) (fun h => ?_)
    · refine kR.iload dX10_likely_67 3 rfl ?_
      refine zR.i2l dX10_likely_69 ?_
      refine kR.aload_n dX10_likely_70 2 rfl ?_
      refine kR.iload_n dX10_likely_71 0 rfl ?_
      obtain ⟨v2, e3, h⟩ := bnr_some h
      refine kR.cVi [.int x1] dX10_likely_72 rfl (by decide) mwX10_180 (zq0 c3) (by decide) rfl rfl (Nat.le_of_ble_eq_true rfl) (lX6_allWeights c3 σ x1 _ e3) ?_
      refine zR.i2l dX10_likely_75 ?_
      obtain ⟨v4, e5, h⟩ := bnr_some h
      refine kR.cSi [.long (x4.toInt64), .long (v2.toInt64)] dX10_likely_76 rfl (by decide) (Or.inl mwX10_202) rfl (Nat.le_of_ble_eq_true rfl) (lX10_thousandths x4.toInt64 v2.toInt64 _ e5) ?_
      exact kR.iretO dX10_likely_79 (nzI rfl _) h
    · refine kR.aload_n dX10_likely_38 2 rfl ?_
      refine kR.iload_n dX10_likely_39 0 rfl ?_
      refine kR.iload dX10_likely_40 4 rfl ?_
      obtain ⟨v6, e7, h⟩ := bnr_some h
      refine kR.cVi [.int x1, .int x5] dX10_likely_42 rfl (by decide) mwX10_171 (zq0 c3) (by decide) rfl rfl (Nat.le_of_ble_eq_true rfl) (lX6_lengthAt c3 σ x1 x5 _ e7) ?_
      refine kR.iload_n dX10_likely_45 1 rfl ?_
      refine kR.icmp_le (tgt := 61) dX10_likely_46 (by decide) h (fun h => ?_) (fun h => ?_)
      · exact kX10_likely_61 σ (fX10_likely_28 σ f) ih _ _ _ _ _ _ h
      · refine kR.iload dX10_likely_49 3 rfl ?_
        refine kR.aload_n dX10_likely_51 2 rfl ?_
        refine kR.iload_n dX10_likely_52 0 rfl ?_
        refine kR.iload dX10_likely_53 4 rfl ?_
        obtain ⟨v8, e9, h⟩ := bnr_some h
        refine kR.cVi [.int x1, .int x5] dX10_likely_55 rfl (by decide) mwX10_174 (zq0 c3) (by decide) rfl rfl (Nat.le_of_ble_eq_true rfl) (lX6_weightAt c3 σ x1 x5 _ e9) ?_
        refine zR.iadd dX10_likely_58 ?_
        refine zR.istore (i := 4) (ls' := [(4, .int (x4 + v8)), (1, .int x1), (2, .int x2), (3, .ref (rp c3 + 0)), (5, .int x5)]) dX10_likely_59 (by decide) rfl ?_
        refine zR.sub [1, 2, 3, 0, 4] rfl ?_
        exact kX10_likely_61 σ (fX10_likely_28 σ f) ih _ _ _ _ _ _ h
def fX10_likely (σ : zS) (p1 : Int32) (p2 : Int32) : Option Int32 := if (fX6_hasTunnel σ.2.2.2.1 σ p1) = 0 then some ((-1)) else if 0 ≤ p2 then fX10_likely_28 σ zF p1 p2 σ.2.2.2.1 0 0 else some ((-1))
theorem eX10_likely {sc : Nat × (Nat → Int32)} (σ : zS) (p1 : Int32) (p2 : Int32) (w : Int32) (h : fX10_likely σ p1 p2 = some w) : zR (zY0 sc) 4 0 0 mX10_likely 0 [(0, .ref 1), (1, .int p1), (2, .int p2)] [] (zE σ) (some (.int w), zE σ) := by
  unfold fX10_likely at h
  refine kR.aload_n dX10_likely_0 0 rfl ?_
  refine kR.getR (v := 8) dX10_likely_1 flX10_38 zcf10 zp1 (Or.inl ⟨_, rfl⟩) rfl ?_
  refine kR.getR (v := (rp σ.2.2.2.1 + 0)) dX10_likely_4 flX10_111 zcf4 zp8 (Or.inl ⟨_, rfl⟩) rfl ?_
  refine zR.astore_n (i := 3) (ls' := [(3, .ref (rp σ.2.2.2.1 + 0)), (0, .ref 1), (1, .int p1), (2, .int p2)]) dX10_likely_7 rfl (by decide) rfl ?_
  refine kR.aload_n dX10_likely_8 0 rfl ?_
  refine kR.iload_n dX10_likely_9 2 rfl ?_
  refine kR.cVi [.int p1] dX10_likely_10 rfl (by decide) mwX10_147 (zq0 σ.2.2.2.1) (by decide) rfl rfl (Nat.le_of_ble_eq_true rfl) (lX6_hasTunnel σ.2.2.2.1 σ p1) ?_
  refine kR.if_eq (tgt := 20) dX10_likely_13 (by decide) h (fun h => ?_) (fun h => ?_)
  · refine zR.iconst (v := (-1)) dX10_likely_20 (by decide) ?_
    exact kR.iretO dX10_likely_21 (nzI rfl _) h
  · refine kR.iload_n dX10_likely_16 3 rfl ?_
    refine kR.if_ge (tgt := 22) dX10_likely_17 (by decide) h (fun h => ?_) (fun h => ?_)
    · refine zR.iconst (v := 0) dX10_likely_22 (by decide) ?_
      refine zR.istore (i := 4) (ls' := [(4, .int 0), (3, .ref (rp σ.2.2.2.1 + 0)), (0, .ref 1), (1, .int p1), (2, .int p2)]) dX10_likely_23 (by decide) rfl ?_
      refine zR.iconst (v := 0) dX10_likely_25 (by decide) ?_
      refine zR.istore (i := 5) (ls' := [(5, .int 0), (4, .int 0), (3, .ref (rp σ.2.2.2.1 + 0)), (0, .ref 1), (1, .int p1), (2, .int p2)]) dX10_likely_26 (by decide) rfl ?_
      refine zR.sub [4, 5, 2, 1, 0] rfl ?_
      exact kX10_likely_28 σ zF _ _ _ _ _ _ h
    · refine zR.iconst (v := (-1)) dX10_likely_20 (by decide) ?_
      exact kR.iretO dX10_likely_21 (nzI rfl _) h
theorem lX10_likely {sc : Nat × (Nat → Int32)} (σ : zS) (p1 : Int32) (p2 : Int32) (w : Int32) (h : fX10_likely σ p1 p2 = some w) : zC (zY0 sc) 4 0 0 mX10_likely [.ref 1, .int p1, .int p2] (zE σ) (some (.int w), zE σ) := zC.of (by decide +kernel) (Nat.le_of_ble_eq_true rfl) ⟨_, rfl⟩ (eX10_likely σ p1 p2 w h)
theorem dX10_isLength_0 : decode cX10_isLength 0 = .ok (.iload_n 0, 1) := by decide +kernel
theorem dX10_isLength_1 : decode cX10_isLength 1 = .ok (.iconst 1, 1) := by decide +kernel
theorem dX10_isLength_2 : decode cX10_isLength 2 = .ok (.if_icmp .lt 13, 3) := by decide +kernel
theorem dX10_isLength_5 : decode cX10_isLength 5 = .ok (.iload_n 0, 1) := by decide +kernel
theorem dX10_isLength_6 : decode cX10_isLength 6 = .ok (.bipush 60, 2) := by decide +kernel
theorem dX10_isLength_8 : decode cX10_isLength 8 = .ok (.if_icmp .gt 7, 3) := by decide +kernel
theorem dX10_isLength_11 : decode cX10_isLength 11 = .ok (.iconst 1, 1) := by decide +kernel
theorem dX10_isLength_12 : decode cX10_isLength 12 = .ok (.goto 4, 3) := by decide +kernel
theorem dX10_isLength_15 : decode cX10_isLength 15 = .ok (.iconst 0, 1) := by decide +kernel
theorem dX10_isLength_16 : decode cX10_isLength 16 = .ok (.ireturn, 1) := by decide +kernel
def fX10_isLength (p0 : Int32) : Int32 := if p0 < 1 then 0 else if 60 < p0 then 0 else 1
theorem eX10_isLength {sc : Nat × (Nat → Int32)} {μ : zM} (p0 : Int32) (w : Int32) (h : fX10_isLength p0 = w) : zR (zY0 sc) 1 0 0 mX10_isLength 0 [(0, .int p0)] [] μ (some (.int w), μ) := by
  unfold fX10_isLength at h
  refine kR.iload_n dX10_isLength_0 0 rfl ?_
  refine zR.iconst (v := 1) dX10_isLength_1 (by decide) ?_
  refine kR.icmp_lt (tgt := 15) dX10_isLength_2 (by decide) h (fun h => ?_) (fun h => ?_)
  · refine zR.iconst (v := 0) dX10_isLength_15 (by decide) ?_
    exact kR.iret dX10_isLength_16 (nzZ rfl (Or.inl rfl)) h
  · refine kR.iload_n dX10_isLength_5 0 rfl ?_
    refine zR.bipush (v := 60) dX10_isLength_6 (by decide) ?_
    refine kR.icmp_gt (tgt := 15) dX10_isLength_8 (by decide) h (fun h => ?_) (fun h => ?_)
    · refine zR.iconst (v := 0) dX10_isLength_15 (by decide) ?_
      exact kR.iret dX10_isLength_16 (nzZ rfl (Or.inl rfl)) h
    · refine zR.iconst (v := 1) dX10_isLength_11 (by decide) ?_
      refine zR.goto (tgt := 16) dX10_isLength_12 (by decide) ?_
      exact kR.iret dX10_isLength_16 (nzZ rfl (Or.inr rfl)) h
theorem lX10_isLength {sc : Nat × (Nat → Int32)} {μ : zM} (p0 : Int32) : zC (zY0 sc) 1 0 0 mX10_isLength [.int p0] μ (some (.int (fX10_isLength p0)), μ) := zC.of (by decide +kernel) (Nat.le_of_ble_eq_true rfl) ⟨_, rfl⟩ (eX10_isLength p0 _ rfl)
theorem dX4_secondsHeld_0 : decode cX4_secondsHeld 0 = .ok (.aload_n 0, 1) := by decide +kernel
theorem dX4_secondsHeld_1 : decode cX4_secondsHeld 1 = .ok (.getfield 18, 3) := by decide +kernel
theorem dX4_secondsHeld_4 : decode cX4_secondsHeld 4 = .ok (.iload_n 1, 1) := by decide +kernel
theorem dX4_secondsHeld_5 : decode cX4_secondsHeld 5 = .ok (.invokevirtual 26, 3) := by decide +kernel
theorem dX4_secondsHeld_8 : decode cX4_secondsHeld 8 = .ok (.aload_n 0, 1) := by decide +kernel
theorem dX4_secondsHeld_9 : decode cX4_secondsHeld 9 = .ok (.getfield 18, 3) := by decide +kernel
theorem dX4_secondsHeld_12 : decode cX4_secondsHeld 12 = .ok (.iload_n 1, 1) := by decide +kernel
theorem dX4_secondsHeld_13 : decode cX4_secondsHeld 13 = .ok (.invokevirtual 32, 3) := by decide +kernel
theorem dX4_secondsHeld_16 : decode cX4_secondsHeld 16 = .ok (.invokestatic 35, 3) := by decide +kernel
theorem dX4_secondsHeld_19 : decode cX4_secondsHeld 19 = .ok (.istore 4, 2) := by decide +kernel
theorem dX4_secondsHeld_21 : decode cX4_secondsHeld 21 = .ok (.aload_n 0, 1) := by decide +kernel
theorem dX4_secondsHeld_22 : decode cX4_secondsHeld 22 = .ok (.getfield 18, 3) := by decide +kernel
theorem dX4_secondsHeld_25 : decode cX4_secondsHeld 25 = .ok (.iload_n 1, 1) := by decide +kernel
theorem dX4_secondsHeld_26 : decode cX4_secondsHeld 26 = .ok (.iload_n 2, 1) := by decide +kernel
theorem dX4_secondsHeld_27 : decode cX4_secondsHeld 27 = .ok (.invokevirtual 41, 3) := by decide +kernel
theorem dX4_secondsHeld_30 : decode cX4_secondsHeld 30 = .ok (.iload 4, 2) := by decide +kernel
theorem dX4_secondsHeld_32 : decode cX4_secondsHeld 32 = .ok (.if_icmp .le 7, 3) := by decide +kernel
theorem dX4_secondsHeld_35 : decode cX4_secondsHeld 35 = .ok (.iconst 0, 1) := by decide +kernel
theorem dX4_secondsHeld_36 : decode cX4_secondsHeld 36 = .ok (.goto 9, 3) := by decide +kernel
theorem dX4_secondsHeld_39 : decode cX4_secondsHeld 39 = .ok (.iload_n 3, 1) := by decide +kernel
theorem dX4_secondsHeld_40 : decode cX4_secondsHeld 40 = .ok (.iload 4, 2) := by decide +kernel
theorem dX4_secondsHeld_42 : decode cX4_secondsHeld 42 = .ok (.invokestatic 35, 3) := by decide +kernel
theorem dX4_secondsHeld_45 : decode cX4_secondsHeld 45 = .ok (.ireturn, 1) := by decide +kernel
def fX4_secondsHeld (σ : zS) (p1 : Int32) (p2 : Int32) (p3 : Int32) : Option Int32 := bnr (fX7_breathOf σ p1) fun v1 => bnr (fX7_givesOf σ p1) fun v3 => bnr (fX7_thinksOf σ p1 p2) fun v5 => if v5 ≤ (fJ9_min_7cf53 v1 v3) then some (fJ9_min_7cf53 p3 (fJ9_min_7cf53 v1 v3)) else some 0
theorem eX4_secondsHeld {sc : Nat × (Nat → Int32)} (σ : zS) (p1 : Int32) (p2 : Int32) (p3 : Int32) (w : Int32) (h : fX4_secondsHeld σ p1 p2 p3 = some w) : zR (zY0 sc) 3 0 0 mX4_secondsHeld 0 [(0, .ref 8), (1, .int p1), (2, .int p2), (3, .int p3)] [] (zE σ) (some (.int w), zE σ) := by
  unfold fX4_secondsHeld at h
  refine kR.aload_n dX4_secondsHeld_0 0 rfl ?_
  refine kR.getR (v := 4) dX4_secondsHeld_1 flX4_18 zcf4 zp8 (Or.inl ⟨_, rfl⟩) rfl ?_
  refine kR.iload_n dX4_secondsHeld_4 1 rfl ?_
  obtain ⟨v1, e2, h⟩ := bnr_some h
  refine kR.cVi [.int p1] dX4_secondsHeld_5 rfl (by decide) mwX4_26 zp4 (by decide) rfl rfl (Nat.le_of_ble_eq_true rfl) (lX7_breathOf σ p1 _ e2) ?_
  refine kR.aload_n dX4_secondsHeld_8 0 rfl ?_
  refine kR.getR (v := 4) dX4_secondsHeld_9 flX4_18 zcf4 zp8 (Or.inl ⟨_, rfl⟩) rfl ?_
  refine kR.iload_n dX4_secondsHeld_12 1 rfl ?_
  obtain ⟨v3, e4, h⟩ := bnr_some h
  refine kR.cVi [.int p1] dX4_secondsHeld_13 rfl (by decide) mwX4_32 zp4 (by decide) rfl rfl (Nat.le_of_ble_eq_true rfl) (lX7_givesOf σ p1 _ e4) ?_
  refine kR.cSi [.int v1, .int v3] dX4_secondsHeld_16 rfl (by decide) (Or.inl mwX4_35) rfl (Nat.le_of_ble_eq_true rfl) (lJ9_min_7cf53 v1 v3) ?_
  refine zR.istore (i := 4) (ls' := [(4, .int (fJ9_min_7cf53 v1 v3)), (0, .ref 8), (1, .int p1), (2, .int p2), (3, .int p3)]) dX4_secondsHeld_19 (by decide) rfl ?_
  refine kR.aload_n dX4_secondsHeld_21 1 rfl ?_
  refine kR.getR (v := 4) dX4_secondsHeld_22 flX4_18 zcf4 zp8 (Or.inl ⟨_, rfl⟩) rfl ?_
  refine kR.iload_n dX4_secondsHeld_25 2 rfl ?_
  refine kR.iload_n dX4_secondsHeld_26 3 rfl ?_
  obtain ⟨v5, e6, h⟩ := bnr_some h
  refine kR.cVi [.int p1, .int p2] dX4_secondsHeld_27 rfl (by decide) mwX4_41 zp4 (by decide) rfl rfl (Nat.le_of_ble_eq_true rfl) (lX7_thinksOf σ p1 p2 _ e6) ?_
  refine kR.iload dX4_secondsHeld_30 0 rfl ?_
  refine kR.icmp_le (tgt := 39) dX4_secondsHeld_32 (by decide) h (fun h => ?_) (fun h => ?_)
  · refine kR.iload_n dX4_secondsHeld_39 4 rfl ?_
    refine kR.iload dX4_secondsHeld_40 0 rfl ?_
    refine kR.cSi [.int p3, .int (fJ9_min_7cf53 v1 v3)] dX4_secondsHeld_42 rfl (by decide) (Or.inl mwX4_35) rfl (Nat.le_of_ble_eq_true rfl) (lJ9_min_7cf53 p3 (fJ9_min_7cf53 v1 v3)) ?_
    exact kR.iretO dX4_secondsHeld_45 (nzI rfl _) h
  · refine zR.iconst (v := 0) dX4_secondsHeld_35 (by decide) ?_
    refine zR.goto (tgt := 45) dX4_secondsHeld_36 (by decide) ?_
    exact kR.iretO dX4_secondsHeld_45 (nzI rfl _) h
theorem lX4_secondsHeld {sc : Nat × (Nat → Int32)} (σ : zS) (p1 : Int32) (p2 : Int32) (p3 : Int32) (w : Int32) (h : fX4_secondsHeld σ p1 p2 p3 = some w) : zC (zY0 sc) 3 0 0 mX4_secondsHeld [.ref 8, .int p1, .int p2, .int p3] (zE σ) (some (.int w), zE σ) := zC.of (by decide +kernel) (Nat.le_of_ble_eq_true rfl) ⟨_, rfl⟩ (eX4_secondsHeld σ p1 p2 p3 w h)
theorem dX10_holds_0 : decode cX10_holds 0 = .ok (.aload_n 0, 1) := by decide +kernel
theorem dX10_holds_1 : decode cX10_holds 1 = .ok (.getfield 38, 3) := by decide +kernel
theorem dX10_holds_4 : decode cX10_holds 4 = .ok (.getfield 111, 3) := by decide +kernel
theorem dX10_holds_7 : decode cX10_holds 7 = .ok (.iload_n 1, 1) := by decide +kernel
theorem dX10_holds_8 : decode cX10_holds 8 = .ok (.iload_n 2, 1) := by decide +kernel
theorem dX10_holds_9 : decode cX10_holds 9 = .ok (.invokevirtual 206, 3) := by decide +kernel
theorem dX10_holds_12 : decode cX10_holds 12 = .ok (.ifCond .eq 10, 3) := by decide +kernel
theorem dX10_holds_15 : decode cX10_holds 15 = .ok (.iload_n 3, 1) := by decide +kernel
theorem dX10_holds_16 : decode cX10_holds 16 = .ok (.invokestatic 210, 3) := by decide +kernel
theorem dX10_holds_19 : decode cX10_holds 19 = .ok (.ifCond .ne 5, 3) := by decide +kernel
theorem dX10_holds_22 : decode cX10_holds 22 = .ok (.iconst (-1), 1) := by decide +kernel
theorem dX10_holds_23 : decode cX10_holds 23 = .ok (.ireturn, 1) := by decide +kernel
theorem dX10_holds_24 : decode cX10_holds 24 = .ok (.aload_n 0, 1) := by decide +kernel
theorem dX10_holds_25 : decode cX10_holds 25 = .ok (.getfield 38, 3) := by decide +kernel
theorem dX10_holds_28 : decode cX10_holds 28 = .ok (.iload_n 1, 1) := by decide +kernel
theorem dX10_holds_29 : decode cX10_holds 29 = .ok (.iload_n 2, 1) := by decide +kernel
theorem dX10_holds_30 : decode cX10_holds 30 = .ok (.iload_n 3, 1) := by decide +kernel
theorem dX10_holds_31 : decode cX10_holds 31 = .ok (.invokevirtual 213, 3) := by decide +kernel
theorem dX10_holds_34 : decode cX10_holds 34 = .ok (.ireturn, 1) := by decide +kernel
def fX10_holds (σ : zS) (p1 : Int32) (p2 : Int32) (p3 : Int32) : Option Int32 := if (fX6_hasBoth σ.2.2.2.1 σ p1 p2) = 0 then some ((-1)) else if (fX10_isLength p3) = 0 then some ((-1)) else bnr (fX4_secondsHeld σ p1 p2 p3) fun v1 => some v1
theorem eX10_holds {sc : Nat × (Nat → Int32)} (σ : zS) (p1 : Int32) (p2 : Int32) (p3 : Int32) (w : Int32) (h : fX10_holds σ p1 p2 p3 = some w) : zR (zY0 sc) 4 0 0 mX10_holds 0 [(0, .ref 1), (1, .int p1), (2, .int p2), (3, .int p3)] [] (zE σ) (some (.int w), zE σ) := by
  unfold fX10_holds at h
  refine kR.aload_n dX10_holds_0 0 rfl ?_
  refine kR.getR (v := 8) dX10_holds_1 flX10_38 zcf10 zp1 (Or.inl ⟨_, rfl⟩) rfl ?_
  refine kR.getR (v := (rp σ.2.2.2.1 + 0)) dX10_holds_4 flX10_111 zcf4 zp8 (Or.inl ⟨_, rfl⟩) rfl ?_
  refine kR.iload_n dX10_holds_7 1 rfl ?_
  refine kR.iload_n dX10_holds_8 2 rfl ?_
  refine kR.cVi [.int p1, .int p2] dX10_holds_9 rfl (by decide) mwX10_206 (zq0 σ.2.2.2.1) (by decide) rfl rfl (Nat.le_of_ble_eq_true rfl) (lX6_hasBoth σ.2.2.2.1 σ p1 p2) ?_
  refine kR.if_eq (tgt := 22) dX10_holds_12 (by decide) h (fun h => ?_) (fun h => ?_)
  · refine zR.iconst (v := (-1)) dX10_holds_22 (by decide) ?_
    exact kR.iretO dX10_holds_23 (nzI rfl _) h
  · refine kR.iload_n dX10_holds_15 3 rfl ?_
    refine kR.cSi [.int p3] dX10_holds_16 rfl (by decide) (Or.inl mwX10_210) rfl (Nat.le_of_ble_eq_true rfl) (lX10_isLength p3) ?_
    refine kR.if_ne (tgt := 24) dX10_holds_19 (by decide) h (fun h => ?_) (fun h => ?_)
    · refine kR.aload_n dX10_holds_24 0 rfl ?_
      refine kR.getR (v := 8) dX10_holds_25 flX10_38 zcf10 zp1 (Or.inl ⟨_, rfl⟩) rfl ?_
      refine kR.iload_n dX10_holds_28 1 rfl ?_
      refine kR.iload_n dX10_holds_29 2 rfl ?_
      refine kR.iload_n dX10_holds_30 3 rfl ?_
      obtain ⟨v1, e2, h⟩ := bnr_some h
      refine kR.cVi [.int p1, .int p2, .int p3] dX10_holds_31 rfl (by decide) mwX10_213 zp8 (by decide) rfl rfl (Nat.le_of_ble_eq_true rfl) (lX4_secondsHeld σ p1 p2 p3 _ e2) ?_
      exact kR.iretO dX10_holds_34 (nzI rfl _) h
    · refine zR.iconst (v := (-1)) dX10_holds_22 (by decide) ?_
      exact kR.iretO dX10_holds_23 (nzI rfl _) h
theorem lX10_holds {sc : Nat × (Nat → Int32)} (σ : zS) (p1 : Int32) (p2 : Int32) (p3 : Int32) (w : Int32) (h : fX10_holds σ p1 p2 p3 = some w) : zC (zY0 sc) 4 0 0 mX10_holds [.ref 1, .int p1, .int p2, .int p3] (zE σ) (some (.int w), zE σ) := zC.of (by decide +kernel) (Nat.le_of_ble_eq_true rfl) ⟨_, rfl⟩ (eX10_holds σ p1 p2 p3 w h)
theorem dX10_made_0 : decode cX10_made 0 = .ok (.aload_n 0, 1) := by decide +kernel
theorem dX10_made_1 : decode cX10_made 1 = .ok (.getfield 38, 3) := by decide +kernel
theorem dX10_made_4 : decode cX10_made 4 = .ok (.getfield 111, 3) := by decide +kernel
theorem dX10_made_7 : decode cX10_made 7 = .ok (.astore_n 3, 1) := by decide +kernel
theorem dX10_made_8 : decode cX10_made 8 = .ok (.aload_n 3, 1) := by decide +kernel
theorem dX10_made_9 : decode cX10_made 9 = .ok (.iload_n 1, 1) := by decide +kernel
theorem dX10_made_10 : decode cX10_made 10 = .ok (.iload_n 2, 1) := by decide +kernel
theorem dX10_made_11 : decode cX10_made 11 = .ok (.invokevirtual 206, 3) := by decide +kernel
theorem dX10_made_14 : decode cX10_made 14 = .ok (.ifCond .ne 5, 3) := by decide +kernel
theorem dX10_made_17 : decode cX10_made 17 = .ok (.iconst (-1), 1) := by decide +kernel
theorem dX10_made_18 : decode cX10_made 18 = .ok (.ireturn, 1) := by decide +kernel
theorem dX10_made_19 : decode cX10_made 19 = .ok (.iconst 0, 1) := by decide +kernel
theorem dX10_made_20 : decode cX10_made 20 = .ok (.istore 4, 2) := by decide +kernel
theorem dX10_made_22 : decode cX10_made 22 = .ok (.iconst 0, 1) := by decide +kernel
theorem dX10_made_23 : decode cX10_made 23 = .ok (.istore 5, 2) := by decide +kernel
theorem dX10_made_25 : decode cX10_made 25 = .ok (.iload 5, 2) := by decide +kernel
theorem dX10_made_27 : decode cX10_made 27 = .ok (.aload_n 3, 1) := by decide +kernel
theorem dX10_made_28 : decode cX10_made 28 = .ok (.iload_n 2, 1) := by decide +kernel
theorem dX10_made_29 : decode cX10_made 29 = .ok (.invokevirtual 168, 3) := by decide +kernel
theorem dX10_made_32 : decode cX10_made 32 = .ok (.if_icmp .ge 46, 3) := by decide +kernel
theorem dX10_made_35 : decode cX10_made 35 = .ok (.aload_n 3, 1) := by decide +kernel
theorem dX10_made_36 : decode cX10_made 36 = .ok (.iload_n 2, 1) := by decide +kernel
theorem dX10_made_37 : decode cX10_made 37 = .ok (.iload 5, 2) := by decide +kernel
theorem dX10_made_39 : decode cX10_made 39 = .ok (.invokevirtual 171, 3) := by decide +kernel
theorem dX10_made_42 : decode cX10_made 42 = .ok (.istore 6, 2) := by decide +kernel
theorem dX10_made_44 : decode cX10_made 44 = .ok (.aload_n 0, 1) := by decide +kernel
theorem dX10_made_45 : decode cX10_made 45 = .ok (.getfield 38, 3) := by decide +kernel
theorem dX10_made_48 : decode cX10_made 48 = .ok (.iload_n 1, 1) := by decide +kernel
theorem dX10_made_49 : decode cX10_made 49 = .ok (.iload_n 2, 1) := by decide +kernel
theorem dX10_made_50 : decode cX10_made 50 = .ok (.iload 6, 2) := by decide +kernel
theorem dX10_made_52 : decode cX10_made 52 = .ok (.invokevirtual 213, 3) := by decide +kernel
theorem dX10_made_55 : decode cX10_made 55 = .ok (.iload 6, 2) := by decide +kernel
theorem dX10_made_57 : decode cX10_made 57 = .ok (.if_icmp .ne 15, 3) := by decide +kernel
theorem dX10_made_60 : decode cX10_made 60 = .ok (.iload 4, 2) := by decide +kernel
theorem dX10_made_62 : decode cX10_made 62 = .ok (.aload_n 3, 1) := by decide +kernel
theorem dX10_made_63 : decode cX10_made 63 = .ok (.iload_n 2, 1) := by decide +kernel
theorem dX10_made_64 : decode cX10_made 64 = .ok (.iload 5, 2) := by decide +kernel
theorem dX10_made_66 : decode cX10_made 66 = .ok (.invokevirtual 174, 3) := by decide +kernel
theorem dX10_made_69 : decode cX10_made 69 = .ok (.iadd, 1) := by decide +kernel
theorem dX10_made_70 : decode cX10_made 70 = .ok (.istore 4, 2) := by decide +kernel
theorem dX10_made_72 : decode cX10_made 72 = .ok (.iinc 5 1, 3) := by decide +kernel
theorem dX10_made_75 : decode cX10_made 75 = .ok (.goto (-50), 3) := by decide +kernel
theorem dX10_made_78 : decode cX10_made 78 = .ok (.iload 4, 2) := by decide +kernel
theorem dX10_made_80 : decode cX10_made 80 = .ok (.i2l, 1) := by decide +kernel
theorem dX10_made_81 : decode cX10_made 81 = .ok (.aload_n 3, 1) := by decide +kernel
theorem dX10_made_82 : decode cX10_made 82 = .ok (.iload_n 2, 1) := by decide +kernel
theorem dX10_made_83 : decode cX10_made 83 = .ok (.invokevirtual 180, 3) := by decide +kernel
theorem dX10_made_86 : decode cX10_made 86 = .ok (.i2l, 1) := by decide +kernel
theorem dX10_made_87 : decode cX10_made 87 = .ok (.invokestatic 202, 3) := by decide +kernel
theorem dX10_made_90 : decode cX10_made 90 = .ok (.ireturn, 1) := by decide +kernel
def fX10_made_73 (σ : zS) (r25 : Int32 → Int32 → Bool → Int32 → Int32 → Option Int32) (x1 : Int32) (x2 : Int32) (c3 : Bool) (x4 : Int32) (x5 : Int32) : Option Int32 := r25 x1 x2 c3 x4 (x5 + 1)
theorem kX10_made_72 {sc : Nat × (Nat → Int32)} (σ : zS) (r25 : Int32 → Int32 → Bool → Int32 → Int32 → Option Int32) (hr25 : ∀ (x1 : Int32) (x2 : Int32) (c3 : Bool) (x4 : Int32) (x5 : Int32) (w : Int32), r25 x1 x2 c3 x4 x5 = some w → zR (zY0 sc) 4 0 0 mX10_made 25 [(0, .ref 1), (1, .int x1), (2, .int x2), (3, .ref (rp c3 + 0)), (4, .int x4), (5, .int x5)] [] (zE σ) (some (.int w), zE σ)) (x1 : Int32) (x2 : Int32) (c3 : Bool) (x4 : Int32) (x5 : Int32) (w : Int32) (h : fX10_made_73 σ r25 x1 x2 c3 x4 x5 = some w) : zR (zY0 sc) 4 0 0 mX10_made 72 [(0, .ref 1), (1, .int x1), (2, .int x2), (3, .ref (rp c3 + 0)), (4, .int x4), (5, .int x5)] [] (zE σ) (some (.int w), zE σ) := by
  unfold fX10_made_73 at h
  refine zR.iinc 5 (v := x5 + 1) (ls' := [(5, .int (x5 + 1)), (0, .ref 1), (1, .int x1), (2, .int x2), (3, .ref (rp c3 + 0)), (4, .int x4)]) dX10_made_72 rfl rfl (by decide) rfl ?_
  refine zR.goto (tgt := 25) dX10_made_75 (by decide) ?_
  refine zR.sub [1, 2, 3, 4, 5, 0] rfl ?_
  exact hr25 _ _ _ _ _ _ h
def fX10_made_25 (σ : zS) : Nat → Int32 → Int32 → Bool → Int32 → Int32 → Option Int32
  | 0, _, _, _, _, _ => none
  | f + 1, x1, x2, c3, x4, x5 => aI σ (rp c3 + 3) 6 x2 fun v1 => if v1 ≤ x5 then bnr (fX6_allWeights c3 σ x2) fun v2 => bnr (fX10_thousandths x4.toInt64 v2.toInt64) fun v4 => some v4 else bnr (fX6_lengthAt c3 σ x2 x5) fun v6 => bnr (fX4_secondsHeld σ x1 x2 v6) fun v8 => if v8 = v6 then bnr (fX6_weightAt c3 σ x2 x5) fun v10 => fX10_made_73 σ (fX10_made_25 σ f) x1 x2 c3 (x4 + v10) x5 else fX10_made_73 σ (fX10_made_25 σ f) x1 x2 c3 x4 x5
theorem kX10_made_25 {sc : Nat × (Nat → Int32)} (σ : zS) : ∀ (fuel : Nat) (x1 : Int32) (x2 : Int32) (c3 : Bool) (x4 : Int32) (x5 : Int32) (w : Int32) (h : fX10_made_25 σ fuel x1 x2 c3 x4 x5 = some w), zR (zY0 sc) 4 0 0 mX10_made 25 [(0, .ref 1), (1, .int x1), (2, .int x2), (3, .ref (rp c3 + 0)), (4, .int x4), (5, .int x5)] [] (zE σ) (some (.int w), zE σ) := by
  intro fuel
  induction fuel with
  | zero => intro x1 x2 c3 x4 x5 w h; exact nomatch h
  | succ f ih =>
    intro x1 x2 c3 x4 x5 w h
    rw [fX10_made_25] at h
    refine kR.iload dX10_made_25 5 rfl ?_
    refine kR.aload_n dX10_made_27 3 rfl ?_
    refine kR.iload_n dX10_made_28 2 rfl ?_
    obtain ⟨v1, e0, h⟩ := aIlc h
    refine kR.cVi [.int x2] dX10_made_29 rfl (by decide) mwX10_168 (zq0 c3) (by decide) rfl rfl (Nat.le_of_ble_eq_true rfl) (lX6_lengthCount c3 σ x2 _ e0) ?_
    refine kR.icmp_ge (tgt := 78) dX10_made_32 (by decide) h (fun h => ?_) (fun h => ?_)
    · refine kR.iload dX10_made_78 4 rfl ?_
      refine zR.i2l dX10_made_80 ?_
      refine kR.aload_n dX10_made_81 3 rfl ?_
      refine kR.iload_n dX10_made_82 2 rfl ?_
      obtain ⟨v2, e3, h⟩ := bnr_some h
      refine kR.cVi [.int x2] dX10_made_83 rfl (by decide) mwX10_180 (zq0 c3) (by decide) rfl rfl (Nat.le_of_ble_eq_true rfl) (lX6_allWeights c3 σ x2 _ e3) ?_
      refine zR.i2l dX10_made_86 ?_
      obtain ⟨v4, e5, h⟩ := bnr_some h
      refine kR.cSi [.long (x4.toInt64), .long (v2.toInt64)] dX10_made_87 rfl (by decide) (Or.inl mwX10_202) rfl (Nat.le_of_ble_eq_true rfl) (lX10_thousandths x4.toInt64 v2.toInt64 _ e5) ?_
      exact kR.iretO dX10_made_90 (nzI rfl _) h
    · refine kR.aload_n dX10_made_35 3 rfl ?_
      refine kR.iload_n dX10_made_36 2 rfl ?_
      refine kR.iload dX10_made_37 5 rfl ?_
      obtain ⟨v6, e7, h⟩ := bnr_some h
      refine kR.cVi [.int x2, .int x5] dX10_made_39 rfl (by decide) mwX10_171 (zq0 c3) (by decide) rfl rfl (Nat.le_of_ble_eq_true rfl) (lX6_lengthAt c3 σ x2 x5 _ e7) ?_
      refine zR.istore (i := 6) (ls' := [(6, .int v6), (0, .ref 1), (1, .int x1), (2, .int x2), (3, .ref (rp c3 + 0)), (4, .int x4), (5, .int x5)]) dX10_made_42 (by decide) rfl ?_
      refine kR.aload_n dX10_made_44 1 rfl ?_
      refine kR.getR (v := 8) dX10_made_45 flX10_38 zcf10 zp1 (Or.inl ⟨_, rfl⟩) rfl ?_
      refine kR.iload_n dX10_made_48 2 rfl ?_
      refine kR.iload_n dX10_made_49 3 rfl ?_
      refine kR.iload dX10_made_50 0 rfl ?_
      obtain ⟨v8, e9, h⟩ := bnr_some h
      refine kR.cVi [.int x1, .int x2, .int v6] dX10_made_52 rfl (by decide) mwX10_213 zp8 (by decide) rfl rfl (Nat.le_of_ble_eq_true rfl) (lX4_secondsHeld σ x1 x2 v6 _ e9) ?_
      refine kR.iload dX10_made_55 0 rfl ?_
      refine kR.icmp_ne (tgt := 72) dX10_made_57 (by decide) h (fun h => ?_) (fun h => ?_)
      · refine zR.sub [1, 2, 3, 4, 5, 6] rfl ?_
        exact kX10_made_72 σ (fX10_made_25 σ f) ih _ _ _ _ _ _ h
      · refine kR.iload dX10_made_60 5 rfl ?_
        refine kR.aload_n dX10_made_62 4 rfl ?_
        refine kR.iload_n dX10_made_63 3 rfl ?_
        refine kR.iload dX10_made_64 6 rfl ?_
        obtain ⟨v10, e11, h⟩ := bnr_some h
        refine kR.cVi [.int x2, .int x5] dX10_made_66 rfl (by decide) mwX10_174 (zq0 c3) (by decide) rfl rfl (Nat.le_of_ble_eq_true rfl) (lX6_weightAt c3 σ x2 x5 _ e11) ?_
        refine zR.iadd dX10_made_69 ?_
        refine zR.istore (i := 4) (ls' := [(4, .int (x4 + v10)), (6, .int v6), (0, .ref 1), (1, .int x1), (2, .int x2), (3, .ref (rp c3 + 0)), (5, .int x5)]) dX10_made_70 (by decide) rfl ?_
        refine zR.sub [2, 3, 4, 5, 0, 6] rfl ?_
        exact kX10_made_72 σ (fX10_made_25 σ f) ih _ _ _ _ _ _ h
def fX10_made (σ : zS) (p1 : Int32) (p2 : Int32) : Option Int32 := if (fX6_hasBoth σ.2.2.2.1 σ p1 p2) = 0 then some ((-1)) else fX10_made_25 σ zF p1 p2 σ.2.2.2.1 0 0
theorem eX10_made {sc : Nat × (Nat → Int32)} (σ : zS) (p1 : Int32) (p2 : Int32) (w : Int32) (h : fX10_made σ p1 p2 = some w) : zR (zY0 sc) 4 0 0 mX10_made 0 [(0, .ref 1), (1, .int p1), (2, .int p2)] [] (zE σ) (some (.int w), zE σ) := by
  unfold fX10_made at h
  refine kR.aload_n dX10_made_0 0 rfl ?_
  refine kR.getR (v := 8) dX10_made_1 flX10_38 zcf10 zp1 (Or.inl ⟨_, rfl⟩) rfl ?_
  refine kR.getR (v := (rp σ.2.2.2.1 + 0)) dX10_made_4 flX10_111 zcf4 zp8 (Or.inl ⟨_, rfl⟩) rfl ?_
  refine zR.astore_n (i := 3) (ls' := [(3, .ref (rp σ.2.2.2.1 + 0)), (0, .ref 1), (1, .int p1), (2, .int p2)]) dX10_made_7 rfl (by decide) rfl ?_
  refine kR.aload_n dX10_made_8 0 rfl ?_
  refine kR.iload_n dX10_made_9 2 rfl ?_
  refine kR.iload_n dX10_made_10 3 rfl ?_
  refine kR.cVi [.int p1, .int p2] dX10_made_11 rfl (by decide) mwX10_206 (zq0 σ.2.2.2.1) (by decide) rfl rfl (Nat.le_of_ble_eq_true rfl) (lX6_hasBoth σ.2.2.2.1 σ p1 p2) ?_
  refine kR.if_ne (tgt := 19) dX10_made_14 (by decide) h (fun h => ?_) (fun h => ?_)
  · refine zR.iconst (v := 0) dX10_made_19 (by decide) ?_
    refine zR.istore (i := 4) (ls' := [(4, .int 0), (3, .ref (rp σ.2.2.2.1 + 0)), (0, .ref 1), (1, .int p1), (2, .int p2)]) dX10_made_20 (by decide) rfl ?_
    refine zR.iconst (v := 0) dX10_made_22 (by decide) ?_
    refine zR.istore (i := 5) (ls' := [(5, .int 0), (4, .int 0), (3, .ref (rp σ.2.2.2.1 + 0)), (0, .ref 1), (1, .int p1), (2, .int p2)]) dX10_made_23 (by decide) rfl ?_
    refine zR.sub [3, 4, 5, 2, 1, 0] rfl ?_
    exact kX10_made_25 σ zF _ _ _ _ _ _ h
  · refine zR.iconst (v := (-1)) dX10_made_17 (by decide) ?_
    exact kR.iretO dX10_made_18 (nzI rfl _) h
theorem lX10_made {sc : Nat × (Nat → Int32)} (σ : zS) (p1 : Int32) (p2 : Int32) (w : Int32) (h : fX10_made σ p1 p2 = some w) : zC (zY0 sc) 4 0 0 mX10_made [.ref 1, .int p1, .int p2] (zE σ) (some (.int w), zE σ) := zC.of (by decide +kernel) (Nat.le_of_ble_eq_true rfl) ⟨_, rfl⟩ (eX10_made σ p1 p2 w h)
theorem dX4_allHold_0 : decode cX4_allHold 0 = .ok (.iconst 0, 1) := by decide +kernel
theorem dX4_allHold_1 : decode cX4_allHold 1 = .ok (.istore_n 3, 1) := by decide +kernel
theorem dX4_allHold_2 : decode cX4_allHold 2 = .ok (.iload_n 3, 1) := by decide +kernel
theorem dX4_allHold_3 : decode cX4_allHold 3 = .ok (.aload_n 0, 1) := by decide +kernel
theorem dX4_allHold_4 : decode cX4_allHold 4 = .ok (.getfield 22, 3) := by decide +kernel
theorem dX4_allHold_7 : decode cX4_allHold 7 = .ok (.getfield 44, 3) := by decide +kernel
theorem dX4_allHold_10 : decode cX4_allHold 10 = .ok (.if_icmp .ge 24, 3) := by decide +kernel
theorem dX4_allHold_13 : decode cX4_allHold 13 = .ok (.aload_n 0, 1) := by decide +kernel
theorem dX4_allHold_14 : decode cX4_allHold 14 = .ok (.getfield 9, 3) := by decide +kernel
theorem dX4_allHold_17 : decode cX4_allHold 17 = .ok (.iload_n 3, 1) := by decide +kernel
theorem dX4_allHold_18 : decode cX4_allHold 18 = .ok (.aload_n 0, 1) := by decide +kernel
theorem dX4_allHold_19 : decode cX4_allHold 19 = .ok (.iload_n 3, 1) := by decide +kernel
theorem dX4_allHold_20 : decode cX4_allHold 20 = .ok (.iload_n 1, 1) := by decide +kernel
theorem dX4_allHold_21 : decode cX4_allHold 21 = .ok (.iload_n 2, 1) := by decide +kernel
theorem dX4_allHold_22 : decode cX4_allHold 22 = .ok (.invokevirtual 50, 3) := by decide +kernel
theorem dX4_allHold_25 : decode cX4_allHold 25 = .ok (.invokestatic 54, 3) := by decide +kernel
theorem dX4_allHold_28 : decode cX4_allHold 28 = .ok (.iinc 3 1, 3) := by decide +kernel
theorem dX4_allHold_31 : decode cX4_allHold 31 = .ok (.goto (-29), 3) := by decide +kernel
theorem dX4_allHold_34 : decode cX4_allHold 34 = .ok (.return_, 1) := by decide +kernel
def fX4_allHold_2 : Nat → Int32 → Int32 → Int32 → zS → Option zS
  | 0, _, _, _, _ => none
  | f + 1, x1, x2, x3, σ => if (iG σ (rp σ.2.2.2.1 + 0) 2) ≤ x3 then some σ else bnr (fX4_secondsHeld σ x3 x1 x2) fun v1 => wI σ 25 6 x3 v1 fun σ3 => fX4_allHold_2 f x1 x2 (x3 + 1) σ3
theorem kX4_allHold_2 {sc : Nat × (Nat → Int32)} : ∀ (fuel : Nat) (x1 : Int32) (x2 : Int32) (x3 : Int32) (σ : zS) (w : zS) (h : fX4_allHold_2 fuel x1 x2 x3 σ = some w), zR (zY0 sc) 4 0 0 mX4_allHold 2 [(0, .ref 8), (1, .int x1), (2, .int x2), (3, .int x3)] [] (zE σ) (none, zE w) := by
  intro fuel
  induction fuel with
  | zero => intro x1 x2 x3 σ w h; exact nomatch h
  | succ f ih =>
    intro x1 x2 x3 σ w h
    rw [fX4_allHold_2] at h
    refine kR.iload_n dX4_allHold_2 3 rfl ?_
    refine kR.aload_n dX4_allHold_3 0 rfl ?_
    refine kR.getR (v := (rp σ.2.2.2.1 + 0)) dX4_allHold_4 flX4_22 zcf4 zp8 (Or.inl ⟨_, rfl⟩) rfl ?_
    refine kR.getI dX4_allHold_7 flX4_44 zcf6 (zq0 σ.2.2.2.1) (Or.inl rfl) ?_
    refine kR.icmp_ge (tgt := 34) dX4_allHold_10 (by decide) h (fun h => ?_) (fun h => ?_)
    · exact kR.vret dX4_allHold_34 h
    · refine kR.aload_n dX4_allHold_13 0 rfl ?_
      refine kR.getR (v := 25) dX4_allHold_14 flX4_9 zcf4 zp8 (Or.inr ⟨_, rfl⟩) rfl ?_
      refine kR.iload_n dX4_allHold_17 3 rfl ?_
      refine kR.aload_n dX4_allHold_18 0 rfl ?_
      refine kR.iload_n dX4_allHold_19 3 rfl ?_
      refine kR.iload_n dX4_allHold_20 1 rfl ?_
      refine kR.iload_n dX4_allHold_21 2 rfl ?_
      obtain ⟨v1, e2, h⟩ := bnr_some h
      refine kR.cVi [.int x3, .int x1, .int x2] dX4_allHold_22 rfl (by decide) mwX4_50 zp8 (by decide) rfl rfl (Nat.le_of_ble_eq_true rfl) (lX4_secondsHeld σ x3 x1 x2 _ e2) ?_
      obtain ⟨σ3, e0, h⟩ := wIv (Nat.le_of_ble_eq_true rfl) h
      refine kR.cSv [.ref 25, .int x3, .int v1] dX4_allHold_25 rfl (by decide) (Or.inr mwX4_54) rfl (Nat.le_of_ble_eq_true rfl) (lX10_setAt 25 6 (fun _ => zp25) rfl (Nat.le_of_ble_eq_true rfl) x3 v1 σ _ e0) ?_
      refine zR.iinc 3 (v := x3 + 1) (ls' := [(3, .int (x3 + 1)), (0, .ref 8), (1, .int x1), (2, .int x2)]) dX4_allHold_28 rfl rfl (by decide) rfl ?_
      refine zR.goto (tgt := 2) dX4_allHold_31 (by decide) ?_
      refine zR.sub [1, 2, 3, 0] rfl ?_
      exact ih _ _ _ _ _ h
def fX4_allHold (p1 : Int32) (p2 : Int32) (σ : zS) : Option zS := fX4_allHold_2 zF p1 p2 0 σ
theorem eX4_allHold {sc : Nat × (Nat → Int32)} (p1 : Int32) (p2 : Int32) (σ : zS) (w : zS) (h : fX4_allHold p1 p2 σ = some w) : zR (zY0 sc) 4 0 0 mX4_allHold 0 [(0, .ref 8), (1, .int p1), (2, .int p2)] [] (zE σ) (none, zE w) := by
  unfold fX4_allHold at h
  refine zR.iconst (v := 0) dX4_allHold_0 (by decide) ?_
  refine zR.istore_n (i := 3) (ls' := [(3, .int 0), (0, .ref 8), (1, .int p1), (2, .int p2)]) dX4_allHold_1 rfl (by decide) rfl ?_
  refine zR.sub [1, 2, 3, 0] rfl ?_
  exact kX4_allHold_2 zF _ _ _ _ _ h
theorem lX4_allHold {sc : Nat × (Nat → Int32)} (p1 : Int32) (p2 : Int32) (σ : zS) (w : zS) (h : fX4_allHold p1 p2 σ = some w) : zC (zY0 sc) 4 0 0 mX4_allHold [.ref 8, .int p1, .int p2] (zE σ) (none, zE w) := zC.of (by decide +kernel) (Nat.le_of_ble_eq_true rfl) rfl (eX4_allHold p1 p2 σ w h)
theorem dX4_tellAlone_0 : decode cX4_tellAlone 0 = .ok (.aload_n 0, 1) := by decide +kernel
theorem dX4_tellAlone_1 : decode cX4_tellAlone 1 = .ok (.getfield 15, 3) := by decide +kernel
theorem dX4_tellAlone_4 : decode cX4_tellAlone 4 = .ok (.iconst 0, 1) := by decide +kernel
theorem dX4_tellAlone_5 : decode cX4_tellAlone 5 = .ok (.iload_n 3, 1) := by decide +kernel
theorem dX4_tellAlone_6 : decode cX4_tellAlone 6 = .ok (.iastore, 1) := by decide +kernel
theorem dX4_tellAlone_7 : decode cX4_tellAlone 7 = .ok (.aload_n 0, 1) := by decide +kernel
theorem dX4_tellAlone_8 : decode cX4_tellAlone 8 = .ok (.getfield 15, 3) := by decide +kernel
theorem dX4_tellAlone_11 : decode cX4_tellAlone 11 = .ok (.iconst 1, 1) := by decide +kernel
theorem dX4_tellAlone_12 : decode cX4_tellAlone 12 = .ok (.iload_n 2, 1) := by decide +kernel
theorem dX4_tellAlone_13 : decode cX4_tellAlone 13 = .ok (.iastore, 1) := by decide +kernel
theorem dX4_tellAlone_14 : decode cX4_tellAlone 14 = .ok (.aload_n 0, 1) := by decide +kernel
theorem dX4_tellAlone_15 : decode cX4_tellAlone 15 = .ok (.getfield 15, 3) := by decide +kernel
theorem dX4_tellAlone_18 : decode cX4_tellAlone 18 = .ok (.iconst 2, 1) := by decide +kernel
theorem dX4_tellAlone_19 : decode cX4_tellAlone 19 = .ok (.iload_n 3, 1) := by decide +kernel
theorem dX4_tellAlone_20 : decode cX4_tellAlone 20 = .ok (.iload_n 2, 1) := by decide +kernel
theorem dX4_tellAlone_21 : decode cX4_tellAlone 21 = .ok (.if_icmp .ne 7, 3) := by decide +kernel
theorem dX4_tellAlone_24 : decode cX4_tellAlone 24 = .ok (.iconst 1, 1) := by decide +kernel
theorem dX4_tellAlone_25 : decode cX4_tellAlone 25 = .ok (.goto 4, 3) := by decide +kernel
theorem dX4_tellAlone_28 : decode cX4_tellAlone 28 = .ok (.iconst 0, 1) := by decide +kernel
theorem dX4_tellAlone_29 : decode cX4_tellAlone 29 = .ok (.iastore, 1) := by decide +kernel
theorem dX4_tellAlone_30 : decode cX4_tellAlone 30 = .ok (.aload_n 0, 1) := by decide +kernel
theorem dX4_tellAlone_31 : decode cX4_tellAlone 31 = .ok (.getfield 15, 3) := by decide +kernel
theorem dX4_tellAlone_34 : decode cX4_tellAlone 34 = .ok (.iconst 3, 1) := by decide +kernel
theorem dX4_tellAlone_35 : decode cX4_tellAlone 35 = .ok (.iconst 1, 1) := by decide +kernel
theorem dX4_tellAlone_36 : decode cX4_tellAlone 36 = .ok (.iastore, 1) := by decide +kernel
theorem dX4_tellAlone_37 : decode cX4_tellAlone 37 = .ok (.aload_n 0, 1) := by decide +kernel
theorem dX4_tellAlone_38 : decode cX4_tellAlone 38 = .ok (.getfield 15, 3) := by decide +kernel
theorem dX4_tellAlone_41 : decode cX4_tellAlone 41 = .ok (.iconst 4, 1) := by decide +kernel
theorem dX4_tellAlone_42 : decode cX4_tellAlone 42 = .ok (.iconst 0, 1) := by decide +kernel
theorem dX4_tellAlone_43 : decode cX4_tellAlone 43 = .ok (.iastore, 1) := by decide +kernel
theorem dX4_tellAlone_44 : decode cX4_tellAlone 44 = .ok (.aload_n 0, 1) := by decide +kernel
theorem dX4_tellAlone_45 : decode cX4_tellAlone 45 = .ok (.getfield 15, 3) := by decide +kernel
theorem dX4_tellAlone_48 : decode cX4_tellAlone 48 = .ok (.iconst 5, 1) := by decide +kernel
theorem dX4_tellAlone_49 : decode cX4_tellAlone 49 = .ok (.iload 4, 2) := by decide +kernel
theorem dX4_tellAlone_51 : decode cX4_tellAlone 51 = .ok (.iastore, 1) := by decide +kernel
theorem dX4_tellAlone_52 : decode cX4_tellAlone 52 = .ok (.aload_n 0, 1) := by decide +kernel
theorem dX4_tellAlone_53 : decode cX4_tellAlone 53 = .ok (.getfield 15, 3) := by decide +kernel
theorem dX4_tellAlone_56 : decode cX4_tellAlone 56 = .ok (.bipush 6, 2) := by decide +kernel
theorem dX4_tellAlone_58 : decode cX4_tellAlone 58 = .ok (.aload_n 0, 1) := by decide +kernel
theorem dX4_tellAlone_59 : decode cX4_tellAlone 59 = .ok (.getfield 22, 3) := by decide +kernel
theorem dX4_tellAlone_62 : decode cX4_tellAlone 62 = .ok (.getfield 83, 3) := by decide +kernel
theorem dX4_tellAlone_65 : decode cX4_tellAlone 65 = .ok (.iload_n 1, 1) := by decide +kernel
theorem dX4_tellAlone_66 : decode cX4_tellAlone 66 = .ok (.invokestatic 86, 3) := by decide +kernel
theorem dX4_tellAlone_69 : decode cX4_tellAlone 69 = .ok (.iastore, 1) := by decide +kernel
theorem dX4_tellAlone_70 : decode cX4_tellAlone 70 = .ok (.return_, 1) := by decide +kernel
def fX4_tellAlone_29 (x1 : Int32) (x4 : Int32) (s0 : Int32) (s1 : Int32) (σ : zS) : Option zS := wI σ 26 7 s1 s0 fun σ3 => wI σ3 26 7 3 1 fun σ4 => wI σ4 26 7 4 0 fun σ5 => wI σ5 26 7 5 x4 fun σ6 => aI σ6 (rp σ6.2.2.2.1 + 2) 6 x1 fun v7 => wI σ6 26 7 6 v7 fun σ8 => some σ8
theorem kX4_tellAlone_29 {sc : Nat × (Nat → Int32)} (x1 : Int32) (x4 : Int32) (s0 : Int32) (s1 : Int32) (σ : zS) (w : zS) (h : fX4_tellAlone_29 x1 x4 s0 s1 σ = some w) : zR (zY0 sc) 2 0 0 mX4_tellAlone 29 [(0, .ref 8), (1, .int x1), (4, .int x4)] [.int s0, .int s1, .ref 26] (zE σ) (none, zE w) := by
  unfold fX4_tellAlone_29 at h
  refine kR.iast dX4_tellAlone_29 zp26 rfl h (fun σ3 h => ?_)
  refine kR.aload_n dX4_tellAlone_30 0 rfl ?_
  refine kR.getR (v := 26) dX4_tellAlone_31 flX4_15 zcf4 zp8 (Or.inr ⟨_, rfl⟩) rfl ?_
  refine zR.iconst (v := 3) dX4_tellAlone_34 (by decide) ?_
  refine zR.iconst (v := 1) dX4_tellAlone_35 (by decide) ?_
  refine kR.iast dX4_tellAlone_36 zp26 rfl h (fun σ4 h => ?_)
  refine kR.aload_n dX4_tellAlone_37 0 rfl ?_
  refine kR.getR (v := 26) dX4_tellAlone_38 flX4_15 zcf4 zp8 (Or.inr ⟨_, rfl⟩) rfl ?_
  refine zR.iconst (v := 4) dX4_tellAlone_41 (by decide) ?_
  refine zR.iconst (v := 0) dX4_tellAlone_42 (by decide) ?_
  refine kR.iast dX4_tellAlone_43 zp26 rfl h (fun σ5 h => ?_)
  refine kR.aload_n dX4_tellAlone_44 0 rfl ?_
  refine kR.getR (v := 26) dX4_tellAlone_45 flX4_15 zcf4 zp8 (Or.inr ⟨_, rfl⟩) rfl ?_
  refine zR.iconst (v := 5) dX4_tellAlone_48 (by decide) ?_
  refine kR.iload dX4_tellAlone_49 2 rfl ?_
  refine kR.iast dX4_tellAlone_51 zp26 rfl h (fun σ6 h => ?_)
  refine kR.aload_n dX4_tellAlone_52 0 rfl ?_
  refine kR.getR (v := 26) dX4_tellAlone_53 flX4_15 zcf4 zp8 (Or.inr ⟨_, rfl⟩) rfl ?_
  refine zR.bipush (v := 6) dX4_tellAlone_56 (by decide) ?_
  refine kR.aload_n dX4_tellAlone_58 0 rfl ?_
  refine kR.getR (v := (rp σ6.2.2.2.1 + 0)) dX4_tellAlone_59 flX4_22 zcf4 zp8 (Or.inl ⟨_, rfl⟩) rfl ?_
  refine kR.getR (v := (rp σ6.2.2.2.1 + 2)) dX4_tellAlone_62 flX4_83 zcf6 (zq0 σ6.2.2.2.1) (Or.inr ⟨_, rfl⟩) (zr0_6 _ σ6.2.2.2.1) ?_
  refine kR.iload_n dX4_tellAlone_65 1 rfl ?_
  obtain ⟨v7, e0, h⟩ := aIv (Nat.le_of_ble_eq_true rfl) h
  refine kR.cSi [.ref (rp σ6.2.2.2.1 + 2), .int x1] dX4_tellAlone_66 rfl (by decide) (Or.inr mwX4_86) rfl (Nat.le_of_ble_eq_true rfl) (lX10_valueAt (rp σ6.2.2.2.1 + 2) 6 σ6 (fun _ => (zq2 σ6.2.2.2.1)) (zl2 σ6.2.2.2.1) (Nat.le_of_ble_eq_true rfl) x1 _ e0) ?_
  refine kR.iast dX4_tellAlone_69 zp26 rfl h (fun σ8 h => ?_)
  exact kR.vret dX4_tellAlone_70 h
def fX4_tellAlone (p1 : Int32) (p2 : Int32) (p3 : Int32) (p4 : Int32) (σ : zS) : Option zS := wI σ 26 7 0 p3 fun σ1 => wI σ1 26 7 1 p2 fun σ2 => if p3 = p2 then fX4_tellAlone_29 p1 p4 1 2 σ2 else fX4_tellAlone_29 p1 p4 0 2 σ2
theorem eX4_tellAlone {sc : Nat × (Nat → Int32)} (p1 : Int32) (p2 : Int32) (p3 : Int32) (p4 : Int32) (σ : zS) (w : zS) (h : fX4_tellAlone p1 p2 p3 p4 σ = some w) : zR (zY0 sc) 2 0 0 mX4_tellAlone 0 [(0, .ref 8), (1, .int p1), (2, .int p2), (3, .int p3), (4, .int p4)] [] (zE σ) (none, zE w) := by
  unfold fX4_tellAlone at h
  refine kR.aload_n dX4_tellAlone_0 0 rfl ?_
  refine kR.getR (v := 26) dX4_tellAlone_1 flX4_15 zcf4 zp8 (Or.inr ⟨_, rfl⟩) rfl ?_
  refine zR.iconst (v := 0) dX4_tellAlone_4 (by decide) ?_
  refine kR.iload_n dX4_tellAlone_5 3 rfl ?_
  refine kR.iast dX4_tellAlone_6 zp26 rfl h (fun σ1 h => ?_)
  refine kR.aload_n dX4_tellAlone_7 0 rfl ?_
  refine kR.getR (v := 26) dX4_tellAlone_8 flX4_15 zcf4 zp8 (Or.inr ⟨_, rfl⟩) rfl ?_
  refine zR.iconst (v := 1) dX4_tellAlone_11 (by decide) ?_
  refine kR.iload_n dX4_tellAlone_12 2 rfl ?_
  refine kR.iast dX4_tellAlone_13 zp26 rfl h (fun σ2 h => ?_)
  refine kR.aload_n dX4_tellAlone_14 0 rfl ?_
  refine kR.getR (v := 26) dX4_tellAlone_15 flX4_15 zcf4 zp8 (Or.inr ⟨_, rfl⟩) rfl ?_
  refine zR.iconst (v := 2) dX4_tellAlone_18 (by decide) ?_
  refine kR.iload_n dX4_tellAlone_19 3 rfl ?_
  refine kR.iload_n dX4_tellAlone_20 2 rfl ?_
  refine kR.icmp_ne (tgt := 28) dX4_tellAlone_21 (by decide) h (fun h => ?_) (fun h => ?_)
  · refine zR.iconst (v := 0) dX4_tellAlone_28 (by decide) ?_
    refine zR.sub [0, 1, 4] rfl ?_
    exact kX4_tellAlone_29 _ _ _ _ _ _ h
  · refine zR.iconst (v := 1) dX4_tellAlone_24 (by decide) ?_
    refine zR.goto (tgt := 29) dX4_tellAlone_25 (by decide) ?_
    refine zR.sub [0, 1, 4] rfl ?_
    exact kX4_tellAlone_29 _ _ _ _ _ _ h
theorem lX4_tellAlone {sc : Nat × (Nat → Int32)} (p1 : Int32) (p2 : Int32) (p3 : Int32) (p4 : Int32) (σ : zS) (w : zS) (h : fX4_tellAlone p1 p2 p3 p4 σ = some w) : zC (zY0 sc) 2 0 0 mX4_tellAlone [.ref 8, .int p1, .int p2, .int p3, .int p4] (zE σ) (none, zE w) := zC.of (by decide +kernel) (Nat.le_of_ble_eq_true rfl) rfl (eX4_tellAlone p1 p2 p3 p4 σ w h)

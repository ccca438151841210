/-! MY OWN (by program): X5_advance, X5_isName, X6_tunnelNamed, X6_holderNamed, X5_takeNewName, X10_setAt, X5_takeWord, X5_takeNumber, X10_valueAt, X6_lengthCount, X6_lengthAt, X6_hasLength, X5_readLength, X5_readTunnel, X5_readHolder, X5_takeKnownName, X5_takeHolder, X5_takeTunnel, X6_hasHolder, X6_hasTunnel, X6_hasBoth, X5_readThinks, X5_readGives, X8_isTold -/
theorem dX5_advance_0 : decode cX5_advance 0 = .ok (.aload_n 0, 1) := by decide +kernel
theorem dX5_advance_1 : decode cX5_advance 1 = .ok (.getfield 22, 3) := by decide +kernel
theorem dX5_advance_4 : decode cX5_advance 4 = .ok (.iconst 4, 1) := by decide +kernel
theorem dX5_advance_5 : decode cX5_advance 5 = .ok (.if_icmp .ne 4, 3) := by decide +kernel
theorem dX5_advance_8 : decode cX5_advance 8 = .ok (.return_, 1) := by decide +kernel
theorem dX5_advance_9 : decode cX5_advance 9 = .ok (.aload_n 0, 1) := by decide +kernel
theorem dX5_advance_10 : decode cX5_advance 10 = .ok (.invokevirtual 69, 3) := by decide +kernel
theorem dX5_advance_13 : decode cX5_advance 13 = .ok (.ifCond .eq 13, 3) := by decide +kernel
theorem dX5_advance_16 : decode cX5_advance 16 = .ok (.aload_n 0, 1) := by decide +kernel
theorem dX5_advance_17 : decode cX5_advance 17 = .ok (.iconst 1, 1) := by decide +kernel
theorem dX5_advance_18 : decode cX5_advance 18 = .ok (.aload_n 0, 1) := by decide +kernel
theorem dX5_advance_19 : decode cX5_advance 19 = .ok (.getfield 15, 3) := by decide +kernel
theorem dX5_advance_22 : decode cX5_advance 22 = .ok (.invokevirtual 73, 3) := by decide +kernel
theorem dX5_advance_25 : decode cX5_advance 25 = .ok (.return_, 1) := by decide +kernel
theorem dX5_advance_26 : decode cX5_advance 26 = .ok (.aload_n 0, 1) := by decide +kernel
theorem dX5_advance_27 : decode cX5_advance 27 = .ok (.invokevirtual 77, 3) := by decide +kernel
theorem dX5_advance_30 : decode cX5_advance 30 = .ok (.aload_n 0, 1) := by decide +kernel
theorem dX5_advance_31 : decode cX5_advance 31 = .ok (.aload_n 0, 1) := by decide +kernel
theorem dX5_advance_32 : decode cX5_advance 32 = .ok (.getfield 15, 3) := by decide +kernel
theorem dX5_advance_35 : decode cX5_advance 35 = .ok (.putfield 19, 3) := by decide +kernel
theorem dX5_advance_38 : decode cX5_advance 38 = .ok (.aload_n 0, 1) := by decide +kernel
theorem dX5_advance_39 : decode cX5_advance 39 = .ok (.iconst (-1), 1) := by decide +kernel
theorem dX5_advance_40 : decode cX5_advance 40 = .ok (.putfield 25, 3) := by decide +kernel
theorem dX5_advance_43 : decode cX5_advance 43 = .ok (.aload_n 0, 1) := by decide +kernel
theorem dX5_advance_44 : decode cX5_advance 44 = .ok (.getfield 15, 3) := by decide +kernel
theorem dX5_advance_47 : decode cX5_advance 47 = .ok (.aload_n 0, 1) := by decide +kernel
theorem dX5_advance_48 : decode cX5_advance 48 = .ok (.getfield 40, 3) := by decide +kernel
theorem dX5_advance_51 : decode cX5_advance 51 = .ok (.getfield 80, 3) := by decide +kernel
theorem dX5_advance_54 : decode cX5_advance 54 = .ok (.if_icmp .lt 11, 3) := by decide +kernel
theorem dX5_advance_57 : decode cX5_advance 57 = .ok (.aload_n 0, 1) := by decide +kernel
theorem dX5_advance_58 : decode cX5_advance 58 = .ok (.iconst 1, 1) := by decide +kernel
theorem dX5_advance_59 : decode cX5_advance 59 = .ok (.putfield 22, 3) := by decide +kernel
theorem dX5_advance_62 : decode cX5_advance 62 = .ok (.goto 55, 3) := by decide +kernel
theorem dX5_advance_65 : decode cX5_advance 65 = .ok (.aload_n 0, 1) := by decide +kernel
theorem dX5_advance_66 : decode cX5_advance 66 = .ok (.getfield 40, 3) := by decide +kernel
theorem dX5_advance_69 : decode cX5_advance 69 = .ok (.aload_n 0, 1) := by decide +kernel
theorem dX5_advance_70 : decode cX5_advance 70 = .ok (.getfield 15, 3) := by decide +kernel
theorem dX5_advance_73 : decode cX5_advance 73 = .ok (.invokevirtual 85, 3) := by decide +kernel
theorem dX5_advance_76 : decode cX5_advance 76 = .ok (.invokestatic 89, 3) := by decide +kernel
theorem dX5_advance_79 : decode cX5_advance 79 = .ok (.ifCond .eq 10, 3) := by decide +kernel
theorem dX5_advance_82 : decode cX5_advance 82 = .ok (.aload_n 0, 1) := by decide +kernel
theorem dX5_advance_83 : decode cX5_advance 83 = .ok (.invokevirtual 93, 3) := by decide +kernel
theorem dX5_advance_86 : decode cX5_advance 86 = .ok (.goto 31, 3) := by decide +kernel
theorem dX5_advance_89 : decode cX5_advance 89 = .ok (.aload_n 0, 1) := by decide +kernel
theorem dX5_advance_90 : decode cX5_advance 90 = .ok (.getfield 40, 3) := by decide +kernel
theorem dX5_advance_93 : decode cX5_advance 93 = .ok (.aload_n 0, 1) := by decide +kernel
theorem dX5_advance_94 : decode cX5_advance 94 = .ok (.getfield 15, 3) := by decide +kernel
theorem dX5_advance_97 : decode cX5_advance 97 = .ok (.invokevirtual 85, 3) := by decide +kernel
theorem dX5_advance_100 : decode cX5_advance 100 = .ok (.invokestatic 96, 3) := by decide +kernel
theorem dX5_advance_103 : decode cX5_advance 103 = .ok (.ifCond .eq 10, 3) := by decide +kernel
theorem dX5_advance_106 : decode cX5_advance 106 = .ok (.aload_n 0, 1) := by decide +kernel
theorem dX5_advance_107 : decode cX5_advance 107 = .ok (.invokevirtual 99, 3) := by decide +kernel
theorem dX5_advance_110 : decode cX5_advance 110 = .ok (.goto 7, 3) := by decide +kernel
theorem dX5_advance_113 : decode cX5_advance 113 = .ok (.aload_n 0, 1) := by decide +kernel
theorem dX5_advance_114 : decode cX5_advance 114 = .ok (.invokevirtual 102, 3) := by decide +kernel
theorem dX5_advance_117 : decode cX5_advance 117 = .ok (.return_, 1) := by decide +kernel
def fX5_advance (σ : zS) : Option zS := if (iG σ 54 5) = 4 then some σ else bnr (fX5_isSideBySide σ) fun v1 => if v1 = 0 then bnr (fX5_skipBlanks σ) fun σ3 => bnd (iS σ3 54 4 (iG σ3 54 3)) fun σ5 => bnd (iS σ5 54 6 ((-1))) fun σ6 => if (iG σ6 54 3) < (iG σ6 2 1) then bnr (fX9_byteAt σ6 (iG σ6 54 3)) fun v7 => if (fX5_isLetter v7) = 0 then bnr (fX9_byteAt σ6 (iG σ6 54 3)) fun v9 => if (fX5_isDigit v9) = 0 then bnr (fX5_scanSign σ6) fun σ11 => some σ11 else bnr (fX5_scanNumber σ6) fun σ13 => some σ13 else bnr (fX5_scanWord σ6) fun σ15 => some σ15 else bnd (iS σ6 54 5 1) fun σ17 => some σ17 else bnr (fX5_fail 1 (iG σ 54 3) σ) fun σ18 => some σ18
theorem eX5_advance {sc : Nat × (Nat → Int32)} (σ : zS) (w : zS) (h : fX5_advance σ = some w) : zR (zY0 sc) 6 0 0 mX5_advance 0 [(0, .ref 54)] [] (zE σ) (none, zE w) := by
  unfold fX5_advance at h
  refine kR.aload_n dX5_advance_0 0 rfl ?_
  refine kR.getI dX5_advance_1 flX5_22 zcf5 zp54 (Or.inl rfl) ?_
  refine zR.iconst (v := 4) dX5_advance_4 (by decide) ?_
  refine kR.icmp_ne (tgt := 9) dX5_advance_5 (by decide) h (fun h => ?_) (fun h => ?_)
  · refine kR.aload_n dX5_advance_9 0 rfl ?_
    obtain ⟨v1, e2, h⟩ := bnr_some h
    refine kR.cVi [] dX5_advance_10 rfl (by decide) mwX5_69 zp54 (by decide) rfl rfl (Nat.le_of_ble_eq_true rfl) (lX5_isSideBySide σ _ e2) ?_
    refine kR.if_eq (tgt := 26) dX5_advance_13 (by decide) h (fun h => ?_) (fun h => ?_)
    · refine kR.aload_n dX5_advance_26 0 rfl ?_
      obtain ⟨σ3, e4, h⟩ := bnr_some h
      refine kR.cVv [] dX5_advance_27 rfl (by decide) mwX5_77 zp54 (by decide) rfl rfl (Nat.le_of_ble_eq_true rfl) (lX5_skipBlanks σ _ e4) ?_
      refine kR.aload_n dX5_advance_30 0 rfl ?_
      refine kR.aload_n dX5_advance_31 0 rfl ?_
      refine kR.getI dX5_advance_32 flX5_15 zcf5 zp54 (Or.inl rfl) ?_
      refine kR.putI dX5_advance_35 fpX5_19 zcf5 zp54 rfl h (fun σ5 h => ?_)
      refine kR.aload_n dX5_advance_38 0 rfl ?_
      refine zR.iconst (v := (-1)) dX5_advance_39 (by decide) ?_
      refine kR.putI dX5_advance_40 fpX5_25 zcf5 zp54 rfl h (fun σ6 h => ?_)
      refine kR.aload_n dX5_advance_43 0 rfl ?_
      refine kR.getI dX5_advance_44 flX5_15 zcf5 zp54 (Or.inl rfl) ?_
      refine kR.aload_n dX5_advance_47 0 rfl ?_
      refine kR.getR (v := 2) dX5_advance_48 flX5_40 zcf5 zp54 (Or.inl ⟨_, rfl⟩) rfl ?_
      refine kR.getI dX5_advance_51 flX5_80 zcf9 zp2 (Or.inl rfl) ?_
      refine kR.icmp_lt (tgt := 65) dX5_advance_54 (by decide) h (fun h => ?_) (fun h => ?_)
      · refine kR.aload_n dX5_advance_65 0 rfl ?_
        refine kR.getR (v := 2) dX5_advance_66 flX5_40 zcf5 zp54 (Or.inl ⟨_, rfl⟩) rfl ?_
        refine kR.aload_n dX5_advance_69 0 rfl ?_
        refine kR.getI dX5_advance_70 flX5_15 zcf5 zp54 (Or.inl rfl) ?_
        obtain ⟨v7, e8, h⟩ := bnr_some h
        refine kR.cVi [.int (iG σ6 54 3)] dX5_advance_73 rfl (by decide) mwX5_85 zp2 (by decide) rfl rfl (Nat.le_of_ble_eq_true rfl) (lX9_byteAt σ6 (iG σ6 54 3) _ e8) ?_
        refine kR.cSi [.int v7] dX5_advance_76 rfl (by decide) (Or.inl mwX5_89) rfl (Nat.le_of_ble_eq_true rfl) (lX5_isLetter v7) ?_
        refine kR.if_eq (tgt := 89) dX5_advance_79 (by decide) h (fun h => ?_) (fun h => ?_)
        · refine kR.aload_n dX5_advance_89 0 rfl ?_
          refine kR.getR (v := 2) dX5_advance_90 flX5_40 zcf5 zp54 (Or.inl ⟨_, rfl⟩) rfl ?_
          refine kR.aload_n dX5_advance_93 0 rfl ?_
          refine kR.getI dX5_advance_94 flX5_15 zcf5 zp54 (Or.inl rfl) ?_
          obtain ⟨v9, e10, h⟩ := bnr_some h
          refine kR.cVi [.int (iG σ6 54 3)] dX5_advance_97 rfl (by decide) mwX5_85 zp2 (by decide) rfl rfl (Nat.le_of_ble_eq_true rfl) (lX9_byteAt σ6 (iG σ6 54 3) _ e10) ?_
          refine kR.cSi [.int v9] dX5_advance_100 rfl (by decide) (Or.inl mwX5_96) rfl (Nat.le_of_ble_eq_true rfl) (lX5_isDigit v9) ?_
          refine kR.if_eq (tgt := 113) dX5_advance_103 (by decide) h (fun h => ?_) (fun h => ?_)
          · refine kR.aload_n dX5_advance_113 0 rfl ?_
            obtain ⟨σ11, e12, h⟩ := bnr_some h
            refine kR.cVv [] dX5_advance_114 rfl (by decide) mwX5_102 zp54 (by decide) rfl rfl (Nat.le_of_ble_eq_true rfl) (lX5_scanSign σ6 _ e12) ?_
            exact kR.vret dX5_advance_117 h
          · refine kR.aload_n dX5_advance_106 0 rfl ?_
            obtain ⟨σ13, e14, h⟩ := bnr_some h
            refine kR.cVv [] dX5_advance_107 rfl (by decide) mwX5_99 zp54 (by decide) rfl rfl (Nat.le_of_ble_eq_true rfl) (lX5_scanNumber σ6 _ e14) ?_
            refine zR.goto (tgt := 117) dX5_advance_110 (by decide) ?_
            exact kR.vret dX5_advance_117 h
        · refine kR.aload_n dX5_advance_82 0 rfl ?_
          obtain ⟨σ15, e16, h⟩ := bnr_some h
          refine kR.cVv [] dX5_advance_83 rfl (by decide) mwX5_93 zp54 (by decide) rfl rfl (Nat.le_of_ble_eq_true rfl) (lX5_scanWord σ6 _ e16) ?_
          refine zR.goto (tgt := 117) dX5_advance_86 (by decide) ?_
          exact kR.vret dX5_advance_117 h
      · refine kR.aload_n dX5_advance_57 0 rfl ?_
        refine zR.iconst (v := 1) dX5_advance_58 (by decide) ?_
        refine kR.putI dX5_advance_59 fpX5_22 zcf5 zp54 rfl h (fun σ17 h => ?_)
        refine zR.goto (tgt := 117) dX5_advance_62 (by decide) ?_
        exact kR.vret dX5_advance_117 h
    · refine kR.aload_n dX5_advance_16 0 rfl ?_
      refine zR.iconst (v := 1) dX5_advance_17 (by decide) ?_
      refine kR.aload_n dX5_advance_18 0 rfl ?_
      refine kR.getI dX5_advance_19 flX5_15 zcf5 zp54 (Or.inl rfl) ?_
      obtain ⟨σ18, e19, h⟩ := bnr_some h
      refine kR.cVv [.int 1, .int (iG σ 54 3)] dX5_advance_22 rfl (by decide) mwX5_73 zp54 (by decide) rfl rfl (Nat.le_of_ble_eq_true rfl) (lX5_fail 1 (iG σ 54 3) σ _ e19) ?_
      exact kR.vret dX5_advance_25 h
  · exact kR.vret dX5_advance_8 h
theorem lX5_advance {sc : Nat × (Nat → Int32)} (σ : zS) (w : zS) (h : fX5_advance σ = some w) : zC (zY0 sc) 6 0 0 mX5_advance [.ref 54] (zE σ) (none, zE w) := zC.of (by decide +kernel) (Nat.le_of_ble_eq_true rfl) rfl (eX5_advance σ w h)
theorem dX5_isName_0 : decode cX5_isName 0 = .ok (.aload_n 0, 1) := by decide +kernel
theorem dX5_isName_1 : decode cX5_isName 1 = .ok (.getfield 22, 3) := by decide +kernel
theorem dX5_isName_4 : decode cX5_isName 4 = .ok (.iconst 2, 1) := by decide +kernel
theorem dX5_isName_5 : decode cX5_isName 5 = .ok (.if_icmp .ne 15, 3) := by decide +kernel
theorem dX5_isName_8 : decode cX5_isName 8 = .ok (.aload_n 0, 1) := by decide +kernel
theorem dX5_isName_9 : decode cX5_isName 9 = .ok (.getfield 25, 3) := by decide +kernel
theorem dX5_isName_12 : decode cX5_isName 12 = .ok (.iconst (-1), 1) := by decide +kernel
theorem dX5_isName_13 : decode cX5_isName 13 = .ok (.if_icmp .ne 7, 3) := by decide +kernel
theorem dX5_isName_16 : decode cX5_isName 16 = .ok (.iconst 1, 1) := by decide +kernel
theorem dX5_isName_17 : decode cX5_isName 17 = .ok (.goto 4, 3) := by decide +kernel
theorem dX5_isName_20 : decode cX5_isName 20 = .ok (.iconst 0, 1) := by decide +kernel
theorem dX5_isName_21 : decode cX5_isName 21 = .ok (.ireturn, 1) := by decide +kernel
def fX5_isName (σ : zS) : Int32 := if (iG σ 54 5) = 2 then if (iG σ 54 6) = ((-1)) then 1 else 0 else 0
theorem eX5_isName {sc : Nat × (Nat → Int32)} (σ : zS) (w : Int32) (h : fX5_isName σ = w) : zR (zY0 sc) 1 0 0 mX5_isName 0 [(0, .ref 54)] [] (zE σ) (some (.int w), zE σ) := by
  unfold fX5_isName at h
  refine kR.aload_n dX5_isName_0 0 rfl ?_
  refine kR.getI dX5_isName_1 flX5_22 zcf5 zp54 (Or.inl rfl) ?_
  refine zR.iconst (v := 2) dX5_isName_4 (by decide) ?_
  refine kR.icmp_ne (tgt := 20) dX5_isName_5 (by decide) h (fun h => ?_) (fun h => ?_)
  · refine zR.iconst (v := 0) dX5_isName_20 (by decide) ?_
    exact kR.iret dX5_isName_21 (nzZ rfl (Or.inl rfl)) h
  · refine kR.aload_n dX5_isName_8 0 rfl ?_
    refine kR.getI dX5_isName_9 flX5_25 zcf5 zp54 (Or.inl rfl) ?_
    refine zR.iconst (v := (-1)) dX5_isName_12 (by decide) ?_
    refine kR.icmp_ne (tgt := 20) dX5_isName_13 (by decide) h (fun h => ?_) (fun h => ?_)
    · refine zR.iconst (v := 0) dX5_isName_20 (by decide) ?_
      exact kR.iret dX5_isName_21 (nzZ rfl (Or.inl rfl)) h
    · refine zR.iconst (v := 1) dX5_isName_16 (by decide) ?_
      refine zR.goto (tgt := 21) dX5_isName_17 (by decide) ?_
      exact kR.iret dX5_isName_21 (nzZ rfl (Or.inr rfl)) h
theorem lX5_isName {sc : Nat × (Nat → Int32)} (σ : zS) : zC (zY0 sc) 1 0 0 mX5_isName [.ref 54] (zE σ) (some (.int (fX5_isName σ)), zE σ) := zC.of (by decide +kernel) (Nat.le_of_ble_eq_true rfl) ⟨_, rfl⟩ (eX5_isName σ _ rfl)
theorem dX6_tunnelNamed_0 : decode cX6_tunnelNamed 0 = .ok (.aload_n 0, 1) := by decide +kernel
theorem dX6_tunnelNamed_1 : decode cX6_tunnelNamed 1 = .ok (.getfield 27, 3) := by decide +kernel
theorem dX6_tunnelNamed_4 : decode cX6_tunnelNamed 4 = .ok (.aload_n 0, 1) := by decide +kernel
theorem dX6_tunnelNamed_5 : decode cX6_tunnelNamed 5 = .ok (.getfield 15, 3) := by decide +kernel
theorem dX6_tunnelNamed_8 : decode cX6_tunnelNamed 8 = .ok (.iload_n 1, 1) := by decide +kernel
theorem dX6_tunnelNamed_9 : decode cX6_tunnelNamed 9 = .ok (.invokestatic 96, 3) := by decide +kernel
theorem dX6_tunnelNamed_12 : decode cX6_tunnelNamed 12 = .ok (.ireturn, 1) := by decide +kernel
def fX6_tunnelNamed (b0 : Bool) (σ : zS) (p1 : Int32) : Option Int32 := bnr (fX6_find (rp b0 + 1) 6 σ (iG σ (rp b0 + 0) 1) p1) fun v1 => some v1
theorem eX6_tunnelNamed {sc : Nat × (Nat → Int32)} (b0 : Bool) (σ : zS) (p1 : Int32) (w : Int32) (h : fX6_tunnelNamed b0 σ p1 = some w) : zR (zY0 sc) 2 0 0 mX6_tunnelNamed 0 [(0, .ref (rp b0 + 0)), (1, .int p1)] [] (zE σ) (some (.int w), zE σ) := by
  unfold fX6_tunnelNamed at h
  refine kR.aload_n dX6_tunnelNamed_0 0 rfl ?_
  refine kR.getR (v := (rp b0 + 1)) dX6_tunnelNamed_1 flX6_27 zcf6 (zq0 b0) (Or.inr ⟨_, rfl⟩) (zr0_5 _ b0) ?_
  refine kR.aload_n dX6_tunnelNamed_4 0 rfl ?_
  refine kR.getI dX6_tunnelNamed_5 flX6_15 zcf6 (zq0 b0) (Or.inl rfl) ?_
  refine kR.iload_n dX6_tunnelNamed_8 1 rfl ?_
  obtain ⟨v1, e2, h⟩ := bnr_some h
  refine kR.cSi [.ref (rp b0 + 1), .int (iG σ (rp b0 + 0) 1), .int p1] dX6_tunnelNamed_9 rfl (by decide) (Or.inl mwX6_96) rfl (Nat.le_of_ble_eq_true rfl) (lX6_find (rp b0 + 1) 6 σ (fun _ => (zq1 b0)) (zl1 b0) (Nat.le_of_ble_eq_true rfl) (iG σ (rp b0 + 0) 1) p1 _ e2) ?_
  exact kR.iretO dX6_tunnelNamed_12 (nzI rfl _) h
theorem lX6_tunnelNamed {sc : Nat × (Nat → Int32)} (b0 : Bool) (σ : zS) (p1 : Int32) (w : Int32) (h : fX6_tunnelNamed b0 σ p1 = some w) : zC (zY0 sc) 2 0 0 mX6_tunnelNamed [.ref (rp b0 + 0), .int p1] (zE σ) (some (.int w), zE σ) := zC.of (by decide +kernel) (Nat.le_of_ble_eq_true rfl) ⟨_, rfl⟩ (eX6_tunnelNamed b0 σ p1 w h)
theorem dX6_holderNamed_0 : decode cX6_holderNamed 0 = .ok (.aload_n 0, 1) := by decide +kernel
theorem dX6_holderNamed_1 : decode cX6_holderNamed 1 = .ok (.getfield 43, 3) := by decide +kernel
theorem dX6_holderNamed_4 : decode cX6_holderNamed 4 = .ok (.aload_n 0, 1) := by decide +kernel
theorem dX6_holderNamed_5 : decode cX6_holderNamed 5 = .ok (.getfield 18, 3) := by decide +kernel
theorem dX6_holderNamed_8 : decode cX6_holderNamed 8 = .ok (.iload_n 1, 1) := by decide +kernel
theorem dX6_holderNamed_9 : decode cX6_holderNamed 9 = .ok (.invokestatic 96, 3) := by decide +kernel
theorem dX6_holderNamed_12 : decode cX6_holderNamed 12 = .ok (.ireturn, 1) := by decide +kernel
def fX6_holderNamed (b0 : Bool) (σ : zS) (p1 : Int32) : Option Int32 := bnr (fX6_find (rp b0 + 6) 6 σ (iG σ (rp b0 + 0) 2) p1) fun v1 => some v1
theorem eX6_holderNamed {sc : Nat × (Nat → Int32)} (b0 : Bool) (σ : zS) (p1 : Int32) (w : Int32) (h : fX6_holderNamed b0 σ p1 = some w) : zR (zY0 sc) 2 0 0 mX6_holderNamed 0 [(0, .ref (rp b0 + 0)), (1, .int p1)] [] (zE σ) (some (.int w), zE σ) := by
  unfold fX6_holderNamed at h
  refine kR.aload_n dX6_holderNamed_0 0 rfl ?_
  refine kR.getR (v := (rp b0 + 6)) dX6_holderNamed_1 flX6_43 zcf6 (zq0 b0) (Or.inr ⟨_, rfl⟩) (zr0_10 _ b0) ?_
  refine kR.aload_n dX6_holderNamed_4 0 rfl ?_
  refine kR.getI dX6_holderNamed_5 flX6_18 zcf6 (zq0 b0) (Or.inl rfl) ?_
  refine kR.iload_n dX6_holderNamed_8 1 rfl ?_
  obtain ⟨v1, e2, h⟩ := bnr_some h
  refine kR.cSi [.ref (rp b0 + 6), .int (iG σ (rp b0 + 0) 2), .int p1] dX6_holderNamed_9 rfl (by decide) (Or.inl mwX6_96) rfl (Nat.le_of_ble_eq_true rfl) (lX6_find (rp b0 + 6) 6 σ (fun _ => (zq6 b0)) (zl6 b0) (Nat.le_of_ble_eq_true rfl) (iG σ (rp b0 + 0) 2) p1 _ e2) ?_
  exact kR.iretO dX6_holderNamed_12 (nzI rfl _) h
theorem lX6_holderNamed {sc : Nat × (Nat → Int32)} (b0 : Bool) (σ : zS) (p1 : Int32) (w : Int32) (h : fX6_holderNamed b0 σ p1 = some w) : zC (zY0 sc) 2 0 0 mX6_holderNamed [.ref (rp b0 + 0), .int p1] (zE σ) (some (.int w), zE σ) := zC.of (by decide +kernel) (Nat.le_of_ble_eq_true rfl) ⟨_, rfl⟩ (eX6_holderNamed b0 σ p1 w h)
theorem dX5_takeNewName_0 : decode cX5_takeNewName 0 = .ok (.aload_n 0, 1) := by decide +kernel
theorem dX5_takeNewName_1 : decode cX5_takeNewName 1 = .ok (.getfield 28, 3) := by decide +kernel
theorem dX5_takeNewName_4 : decode cX5_takeNewName 4 = .ok (.istore_n 1, 1) := by decide +kernel
theorem dX5_takeNewName_5 : decode cX5_takeNewName 5 = .ok (.aload_n 0, 1) := by decide +kernel
theorem dX5_takeNewName_6 : decode cX5_takeNewName 6 = .ok (.invokevirtual 117, 3) := by decide +kernel
theorem dX5_takeNewName_9 : decode cX5_takeNewName 9 = .ok (.ifCond .ne 15, 3) := by decide +kernel
theorem dX5_takeNewName_12 : decode cX5_takeNewName 12 = .ok (.aload_n 0, 1) := by decide +kernel
theorem dX5_takeNewName_13 : decode cX5_takeNewName 13 = .ok (.iconst 1, 1) := by decide +kernel
theorem dX5_takeNewName_14 : decode cX5_takeNewName 14 = .ok (.aload_n 0, 1) := by decide +kernel
theorem dX5_takeNewName_15 : decode cX5_takeNewName 15 = .ok (.getfield 19, 3) := by decide +kernel
theorem dX5_takeNewName_18 : decode cX5_takeNewName 18 = .ok (.invokevirtual 73, 3) := by decide +kernel
theorem dX5_takeNewName_21 : decode cX5_takeNewName 21 = .ok (.goto 42, 3) := by decide +kernel
theorem dX5_takeNewName_24 : decode cX5_takeNewName 24 = .ok (.aload_n 0, 1) := by decide +kernel
theorem dX5_takeNewName_25 : decode cX5_takeNewName 25 = .ok (.getfield 44, 3) := by decide +kernel
theorem dX5_takeNewName_28 : decode cX5_takeNewName 28 = .ok (.aload_n 0, 1) := by decide +kernel
theorem dX5_takeNewName_29 : decode cX5_takeNewName 29 = .ok (.getfield 28, 3) := by decide +kernel
theorem dX5_takeNewName_32 : decode cX5_takeNewName 32 = .ok (.invokevirtual 120, 3) := by decide +kernel
theorem dX5_takeNewName_35 : decode cX5_takeNewName 35 = .ok (.iconst (-1), 1) := by decide +kernel
theorem dX5_takeNewName_36 : decode cX5_takeNewName 36 = .ok (.if_icmp .ne 18, 3) := by decide +kernel
theorem dX5_takeNewName_39 : decode cX5_takeNewName 39 = .ok (.aload_n 0, 1) := by decide +kernel
theorem dX5_takeNewName_40 : decode cX5_takeNewName 40 = .ok (.getfield 44, 3) := by decide +kernel
theorem dX5_takeNewName_43 : decode cX5_takeNewName 43 = .ok (.aload_n 0, 1) := by decide +kernel
theorem dX5_takeNewName_44 : decode cX5_takeNewName 44 = .ok (.getfield 28, 3) := by decide +kernel
theorem dX5_takeNewName_47 : decode cX5_takeNewName 47 = .ok (.invokevirtual 123, 3) := by decide +kernel
theorem dX5_takeNewName_50 : decode cX5_takeNewName 50 = .ok (.iconst (-1), 1) := by decide +kernel
theorem dX5_takeNewName_51 : decode cX5_takeNewName 51 = .ok (.if_icmp .eq 12, 3) := by decide +kernel
theorem dX5_takeNewName_54 : decode cX5_takeNewName 54 = .ok (.aload_n 0, 1) := by decide +kernel
theorem dX5_takeNewName_55 : decode cX5_takeNewName 55 = .ok (.iconst 2, 1) := by decide +kernel
theorem dX5_takeNewName_56 : decode cX5_takeNewName 56 = .ok (.aload_n 0, 1) := by decide +kernel
theorem dX5_takeNewName_57 : decode cX5_takeNewName 57 = .ok (.getfield 19, 3) := by decide +kernel
theorem dX5_takeNewName_60 : decode cX5_takeNewName 60 = .ok (.invokevirtual 73, 3) := by decide +kernel
theorem dX5_takeNewName_63 : decode cX5_takeNewName 63 = .ok (.aload_n 0, 1) := by decide +kernel
theorem dX5_takeNewName_64 : decode cX5_takeNewName 64 = .ok (.invokevirtual 114, 3) := by decide +kernel
theorem dX5_takeNewName_67 : decode cX5_takeNewName 67 = .ok (.iload_n 1, 1) := by decide +kernel
theorem dX5_takeNewName_68 : decode cX5_takeNewName 68 = .ok (.ireturn, 1) := by decide +kernel
def fX5_takeNewName_63 (x1 : Int32) (σ : zS) : Option (Int32 × zS) := bnr (fX5_advance σ) fun σ5 => some (x1, σ5)
theorem kX5_takeNewName_63 {sc : Nat × (Nat → Int32)} (x1 : Int32) (σ : zS) (w : Int32 × zS) (h : fX5_takeNewName_63 x1 σ = some w) : zR (zY0 sc) 7 0 0 mX5_takeNewName 63 [(0, .ref 54), (1, .int x1)] [] (zE σ) (some (.int w.1), zE w.2) := by
  unfold fX5_takeNewName_63 at h
  refine kR.aload_n dX5_takeNewName_63 0 rfl ?_
  obtain ⟨σ5, e6, h⟩ := bnr_some h
  refine kR.cVv [] dX5_takeNewName_64 rfl (by decide) mwX5_114 zp54 (by decide) rfl rfl (Nat.le_of_ble_eq_true rfl) (lX5_advance σ _ e6) ?_
  refine kR.iload_n dX5_takeNewName_67 1 rfl ?_
  exact kR.iretW dX5_takeNewName_68 (nzI rfl _) h
def fX5_takeNewName_54 (x1 : Int32) (σ : zS) : Option (Int32 × zS) := bnr (fX5_fail 2 (iG σ 54 4) σ) fun σ3 => fX5_takeNewName_63 x1 σ3
theorem kX5_takeNewName_54 {sc : Nat × (Nat → Int32)} (x1 : Int32) (σ : zS) (w : Int32 × zS) (h : fX5_takeNewName_54 x1 σ = some w) : zR (zY0 sc) 7 0 0 mX5_takeNewName 54 [(0, .ref 54), (1, .int x1)] [] (zE σ) (some (.int w.1), zE w.2) := by
  unfold fX5_takeNewName_54 at h
  refine kR.aload_n dX5_takeNewName_54 0 rfl ?_
  refine zR.iconst (v := 2) dX5_takeNewName_55 (by decide) ?_
  refine kR.aload_n dX5_takeNewName_56 0 rfl ?_
  refine kR.getI dX5_takeNewName_57 flX5_19 zcf5 zp54 (Or.inl rfl) ?_
  obtain ⟨σ3, e4, h⟩ := bnr_some h
  refine kR.cVv [.int 2, .int (iG σ 54 4)] dX5_takeNewName_60 rfl (by decide) mwX5_73 zp54 (by decide) rfl rfl (Nat.le_of_ble_eq_true rfl) (lX5_fail 2 (iG σ 54 4) σ _ e4) ?_
  exact kX5_takeNewName_63 _ _ _ h
def fX5_takeNewName (σ : zS) : Option (Int32 × zS) := if (fX5_isName σ) = 0 then bnr (fX5_fail 1 (iG σ 54 4) σ) fun σ9 => fX5_takeNewName_63 (iG σ 54 7) σ9 else bnr (fX6_tunnelNamed σ.2.2.2.2 σ (iG σ 54 7)) fun v1 => if v1 = ((-1)) then bnr (fX6_holderNamed σ.2.2.2.2 σ (iG σ 54 7)) fun v7 => if v7 = ((-1)) then fX5_takeNewName_63 (iG σ 54 7) σ else fX5_takeNewName_54 (iG σ 54 7) σ else fX5_takeNewName_54 (iG σ 54 7) σ
theorem eX5_takeNewName {sc : Nat × (Nat → Int32)} (σ : zS) (w : Int32 × zS) (h : fX5_takeNewName σ = some w) : zR (zY0 sc) 7 0 0 mX5_takeNewName 0 [(0, .ref 54)] [] (zE σ) (some (.int w.1), zE w.2) := by
  unfold fX5_takeNewName at h
  refine kR.aload_n dX5_takeNewName_0 0 rfl ?_
  refine kR.getI dX5_takeNewName_1 flX5_28 zcf5 zp54 (Or.inl rfl) ?_
  refine zR.istore_n (i := 1) (ls' := [(1, .int (iG σ 54 7)), (0, .ref 54)]) dX5_takeNewName_4 rfl (by decide) rfl ?_
  refine kR.aload_n dX5_takeNewName_5 1 rfl ?_
  refine kR.cVi [] dX5_takeNewName_6 rfl (by decide) mwX5_117 zp54 (by decide) rfl rfl (Nat.le_of_ble_eq_true rfl) (lX5_isName σ) ?_
  refine kR.if_ne (tgt := 24) dX5_takeNewName_9 (by decide) h (fun h => ?_) (fun h => ?_)
  · refine kR.aload_n dX5_takeNewName_24 1 rfl ?_
    refine kR.getR (v := (rp σ.2.2.2.2 + 0)) dX5_takeNewName_25 flX5_44 zcf5 zp54 (Or.inl ⟨_, rfl⟩) rfl ?_
    refine kR.aload_n dX5_takeNewName_28 1 rfl ?_
    refine kR.getI dX5_takeNewName_29 flX5_28 zcf5 zp54 (Or.inl rfl) ?_
    obtain ⟨v1, e2, h⟩ := bnr_some h
    refine kR.cVi [.int (iG σ 54 7)] dX5_takeNewName_32 rfl (by decide) mwX5_120 (zq0 σ.2.2.2.2) (by decide) rfl rfl (Nat.le_of_ble_eq_true rfl) (lX6_tunnelNamed σ.2.2.2.2 σ (iG σ 54 7) _ e2) ?_
    refine zR.iconst (v := (-1)) dX5_takeNewName_35 (by decide) ?_
    refine kR.icmp_ne (tgt := 54) dX5_takeNewName_36 (by decide) h (fun h => ?_) (fun h => ?_)
    · refine zR.sub [1, 0] rfl ?_
      exact kX5_takeNewName_54 _ _ _ h
    · refine kR.aload_n dX5_takeNewName_39 1 rfl ?_
      refine kR.getR (v := (rp σ.2.2.2.2 + 0)) dX5_takeNewName_40 flX5_44 zcf5 zp54 (Or.inl ⟨_, rfl⟩) rfl ?_
      refine kR.aload_n dX5_takeNewName_43 1 rfl ?_
      refine kR.getI dX5_takeNewName_44 flX5_28 zcf5 zp54 (Or.inl rfl) ?_
      obtain ⟨v7, e8, h⟩ := bnr_some h
      refine kR.cVi [.int (iG σ 54 7)] dX5_takeNewName_47 rfl (by decide) mwX5_123 (zq0 σ.2.2.2.2) (by decide) rfl rfl (Nat.le_of_ble_eq_true rfl) (lX6_holderNamed σ.2.2.2.2 σ (iG σ 54 7) _ e8) ?_
      refine zR.iconst (v := (-1)) dX5_takeNewName_50 (by decide) ?_
      refine kR.icmp_eq (tgt := 63) dX5_takeNewName_51 (by decide) h (fun h => ?_) (fun h => ?_)
      · refine zR.sub [1, 0] rfl ?_
        exact kX5_takeNewName_63 _ _ _ h
      · refine zR.sub [1, 0] rfl ?_
        exact kX5_takeNewName_54 _ _ _ h
  · refine kR.aload_n dX5_takeNewName_12 1 rfl ?_
    refine zR.iconst (v := 1) dX5_takeNewName_13 (by decide) ?_
    refine kR.aload_n dX5_takeNewName_14 1 rfl ?_
    refine kR.getI dX5_takeNewName_15 flX5_19 zcf5 zp54 (Or.inl rfl) ?_
    obtain ⟨σ9, e10, h⟩ := bnr_some h
    refine kR.cVv [.int 1, .int (iG σ 54 4)] dX5_takeNewName_18 rfl (by decide) mwX5_73 zp54 (by decide) rfl rfl (Nat.le_of_ble_eq_true rfl) (lX5_fail 1 (iG σ 54 4) σ _ e10) ?_
    refine zR.goto (tgt := 63) dX5_takeNewName_21 (by decide) ?_
    refine zR.sub [1, 0] rfl ?_
    exact kX5_takeNewName_63 _ _ _ h
theorem lX5_takeNewName {sc : Nat × (Nat → Int32)} (σ : zS) (w : Int32 × zS) (h : fX5_takeNewName σ = some w) : zC (zY0 sc) 7 0 0 mX5_takeNewName [.ref 54] (zE σ) (some (.int w.1), zE w.2) := zC.of (by decide +kernel) (Nat.le_of_ble_eq_true rfl) ⟨_, rfl⟩ (eX5_takeNewName σ w h)
theorem dX10_setAt_0 : decode cX10_setAt 0 = .ok (.iload_n 1, 1) := by decide +kernel
theorem dX10_setAt_1 : decode cX10_setAt 1 = .ok (.ifCond .lt 13, 3) := by decide +kernel
theorem dX10_setAt_4 : decode cX10_setAt 4 = .ok (.iload_n 1, 1) := by decide +kernel
theorem dX10_setAt_5 : decode cX10_setAt 5 = .ok (.aload_n 0, 1) := by decide +kernel
theorem dX10_setAt_6 : decode cX10_setAt 6 = .ok (.arraylength, 1) := by decide +kernel
theorem dX10_setAt_7 : decode cX10_setAt 7 = .ok (.if_icmp .ge 7, 3) := by decide +kernel
theorem dX10_setAt_10 : decode cX10_setAt 10 = .ok (.aload_n 0, 1) := by decide +kernel
theorem dX10_setAt_11 : decode cX10_setAt 11 = .ok (.iload_n 1, 1) := by decide +kernel
theorem dX10_setAt_12 : decode cX10_setAt 12 = .ok (.iload_n 2, 1) := by decide +kernel
theorem dX10_setAt_13 : decode cX10_setAt 13 = .ok (.iastore, 1) := by decide +kernel
theorem dX10_setAt_14 : decode cX10_setAt 14 = .ok (.return_, 1) := by decide +kernel
def fX10_setAt (a0 : Nat) (n0 : Nat) (p1 : Int32) (p2 : Int32) (σ : zS) : Option zS := if p1 < 0 then some σ else if (Int32.ofNat n0) ≤ p1 then some σ else wI σ a0 n0 p1 p2 fun σ1 => some σ1
theorem eX10_setAt {sc : Nat × (Nat → Int32)} (a0 : Nat) (n0 : Nat) (ha0 : ∀ σ, zAt (zY0 sc) (zE σ) a0 20) (hna0 : (zY0 sc).2.1 a0 = n0) (hma0 : n0 ≤ 2147483647) (p1 : Int32) (p2 : Int32) (σ : zS) (w : zS) (h : fX10_setAt a0 n0 p1 p2 σ = some w) : zR (zY0 sc) 1 0 0 mX10_setAt 0 [(0, .ref a0), (1, .int p1), (2, .int p2)] [] (zE σ) (none, zE w) := by
  unfold fX10_setAt at h
  refine kR.iload_n dX10_setAt_0 1 rfl ?_
  refine kR.if_lt (tgt := 14) dX10_setAt_1 (by decide) h (fun h => ?_) (fun h => ?_)
  · exact kR.vret dX10_setAt_14 h
  · refine kR.iload_n dX10_setAt_4 1 rfl ?_
    refine kR.aload_n dX10_setAt_5 0 rfl ?_
    refine zR.alen (v := Int32.ofNat n0) dX10_setAt_6 (Or.inl (ha0 _)) (by rw [hna0]) ?_
    refine kR.icmp_ge (tgt := 14) dX10_setAt_7 (by decide) h (fun h => ?_) (fun h => ?_)
    · exact kR.vret dX10_setAt_14 h
    · refine kR.aload_n dX10_setAt_10 0 rfl ?_
      refine kR.iload_n dX10_setAt_11 1 rfl ?_
      refine kR.iload_n dX10_setAt_12 2 rfl ?_
      refine kR.iast dX10_setAt_13 (ha0 _) hna0 h (fun σ1 h => ?_)
      exact kR.vret dX10_setAt_14 h
theorem lX10_setAt {sc : Nat × (Nat → Int32)} (a0 : Nat) (n0 : Nat) (ha0 : ∀ σ, zAt (zY0 sc) (zE σ) a0 20) (hna0 : (zY0 sc).2.1 a0 = n0) (hma0 : n0 ≤ 2147483647) (p1 : Int32) (p2 : Int32) (σ : zS) (w : zS) (h : fX10_setAt a0 n0 p1 p2 σ = some w) : zC (zY0 sc) 1 0 0 mX10_setAt [.ref a0, .int p1, .int p2] (zE σ) (none, zE w) := zC.of (by decide +kernel) (Nat.le_of_ble_eq_true rfl) rfl (eX10_setAt a0 n0 ha0 hna0 hma0 p1 p2 σ w h)
theorem wIv {β : Type} {σ : zS} {p n : Nat} {i v : Int32} {F : zS → Option β} {w : β} (hn : n ≤ 2147483647) (h : wI σ p n i v F = some w) : ∃ τ, fX10_setAt p n i v σ = some τ ∧ F τ = some w := by
  obtain ⟨h1, h2⟩ := bq_wI h
  obtain ⟨h3, h4⟩ := bq_ix hn h1
  refine ⟨iS σ p i.toNatClampNeg v, ?_, h2⟩
  unfold fX10_setAt
  rw [if_neg h3, if_neg h4, bq_wIi h1]
theorem dX5_takeWord_0 : decode cX5_takeWord 0 = .ok (.aload_n 0, 1) := by decide +kernel
theorem dX5_takeWord_1 : decode cX5_takeWord 1 = .ok (.getfield 25, 3) := by decide +kernel
theorem dX5_takeWord_4 : decode cX5_takeWord 4 = .ok (.iload_n 1, 1) := by decide +kernel
theorem dX5_takeWord_5 : decode cX5_takeWord 5 = .ok (.if_icmp .ne 10, 3) := by decide +kernel
theorem dX5_takeWord_8 : decode cX5_takeWord 8 = .ok (.aload_n 0, 1) := by decide +kernel
theorem dX5_takeWord_9 : decode cX5_takeWord 9 = .ok (.invokevirtual 114, 3) := by decide +kernel
theorem dX5_takeWord_12 : decode cX5_takeWord 12 = .ok (.goto 12, 3) := by decide +kernel
theorem dX5_takeWord_15 : decode cX5_takeWord 15 = .ok (.aload_n 0, 1) := by decide +kernel
theorem dX5_takeWord_16 : decode cX5_takeWord 16 = .ok (.iconst 1, 1) := by decide +kernel
theorem dX5_takeWord_17 : decode cX5_takeWord 17 = .ok (.aload_n 0, 1) := by decide +kernel
theorem dX5_takeWord_18 : decode cX5_takeWord 18 = .ok (.getfield 19, 3) := by decide +kernel
theorem dX5_takeWord_21 : decode cX5_takeWord 21 = .ok (.invokevirtual 73, 3) := by decide +kernel
theorem dX5_takeWord_24 : decode cX5_takeWord 24 = .ok (.return_, 1) := by decide +kernel
def fX5_takeWord (p1 : Int32) (σ : zS) : Option zS := if (iG σ 54 6) = p1 then bnr (fX5_advance σ) fun σ3 => some σ3 else bnr (fX5_fail 1 (iG σ 54 4) σ) fun σ1 => some σ1
theorem eX5_takeWord {sc : Nat × (Nat → Int32)} (p1 : Int32) (σ : zS) (w : zS) (h : fX5_takeWord p1 σ = some w) : zR (zY0 sc) 7 0 0 mX5_takeWord 0 [(0, .ref 54), (1, .int p1)] [] (zE σ) (none, zE w) := by
  unfold fX5_takeWord at h
  refine kR.aload_n dX5_takeWord_0 0 rfl ?_
  refine kR.getI dX5_takeWord_1 flX5_25 zcf5 zp54 (Or.inl rfl) ?_
  refine kR.iload_n dX5_takeWord_4 1 rfl ?_
  refine kR.icmp_ne (tgt := 15) dX5_takeWord_5 (by decide) h (fun h => ?_) (fun h => ?_)
  · refine kR.aload_n dX5_takeWord_15 0 rfl ?_
    refine zR.iconst (v := 1) dX5_takeWord_16 (by decide) ?_
    refine kR.aload_n dX5_takeWord_17 0 rfl ?_
    refine kR.getI dX5_takeWord_18 flX5_19 zcf5 zp54 (Or.inl rfl) ?_
    obtain ⟨σ1, e2, h⟩ := bnr_some h
    refine kR.cVv [.int 1, .int (iG σ 54 4)] dX5_takeWord_21 rfl (by decide) mwX5_73 zp54 (by decide) rfl rfl (Nat.le_of_ble_eq_true rfl) (lX5_fail 1 (iG σ 54 4) σ _ e2) ?_
    exact kR.vret dX5_takeWord_24 h
  · refine kR.aload_n dX5_takeWord_8 0 rfl ?_
    obtain ⟨σ3, e4, h⟩ := bnr_some h
    refine kR.cVv [] dX5_takeWord_9 rfl (by decide) mwX5_114 zp54 (by decide) rfl rfl (Nat.le_of_ble_eq_true rfl) (lX5_advance σ _ e4) ?_
    refine zR.goto (tgt := 24) dX5_takeWord_12 (by decide) ?_
    exact kR.vret dX5_takeWord_24 h
theorem lX5_takeWord {sc : Nat × (Nat → Int32)} (p1 : Int32) (σ : zS) (w : zS) (h : fX5_takeWord p1 σ = some w) : zC (zY0 sc) 7 0 0 mX5_takeWord [.ref 54, .int p1] (zE σ) (none, zE w) := zC.of (by decide +kernel) (Nat.le_of_ble_eq_true rfl) rfl (eX5_takeWord p1 σ w h)
theorem dX5_takeNumber_0 : decode cX5_takeNumber 0 = .ok (.aload_n 0, 1) := by decide +kernel
theorem dX5_takeNumber_1 : decode cX5_takeNumber 1 = .ok (.getfield 31, 3) := by decide +kernel
theorem dX5_takeNumber_4 : decode cX5_takeNumber 4 = .ok (.istore_n 3, 1) := by decide +kernel
theorem dX5_takeNumber_5 : decode cX5_takeNumber 5 = .ok (.aload_n 0, 1) := by decide +kernel
theorem dX5_takeNumber_6 : decode cX5_takeNumber 6 = .ok (.getfield 22, 3) := by decide +kernel
theorem dX5_takeNumber_9 : decode cX5_takeNumber 9 = .ok (.iconst 3, 1) := by decide +kernel
theorem dX5_takeNumber_10 : decode cX5_takeNumber 10 = .ok (.if_icmp .eq 15, 3) := by decide +kernel
theorem dX5_takeNumber_13 : decode cX5_takeNumber 13 = .ok (.aload_n 0, 1) := by decide +kernel
theorem dX5_takeNumber_14 : decode cX5_takeNumber 14 = .ok (.iconst 1, 1) := by decide +kernel
theorem dX5_takeNumber_15 : decode cX5_takeNumber 15 = .ok (.aload_n 0, 1) := by decide +kernel
theorem dX5_takeNumber_16 : decode cX5_takeNumber 16 = .ok (.getfield 19, 3) := by decide +kernel
theorem dX5_takeNumber_19 : decode cX5_takeNumber 19 = .ok (.invokevirtual 73, 3) := by decide +kernel
theorem dX5_takeNumber_22 : decode cX5_takeNumber 22 = .ok (.goto 28, 3) := by decide +kernel
theorem dX5_takeNumber_25 : decode cX5_takeNumber 25 = .ok (.aload_n 0, 1) := by decide +kernel
theorem dX5_takeNumber_26 : decode cX5_takeNumber 26 = .ok (.getfield 31, 3) := by decide +kernel
theorem dX5_takeNumber_29 : decode cX5_takeNumber 29 = .ok (.iload_n 1, 1) := by decide +kernel
theorem dX5_takeNumber_30 : decode cX5_takeNumber 30 = .ok (.if_icmp .lt 11, 3) := by decide +kernel
theorem dX5_takeNumber_33 : decode cX5_takeNumber 33 = .ok (.aload_n 0, 1) := by decide +kernel
theorem dX5_takeNumber_34 : decode cX5_takeNumber 34 = .ok (.getfield 31, 3) := by decide +kernel
theorem dX5_takeNumber_37 : decode cX5_takeNumber 37 = .ok (.iload_n 2, 1) := by decide +kernel
theorem dX5_takeNumber_38 : decode cX5_takeNumber 38 = .ok (.if_icmp .le 12, 3) := by decide +kernel
theorem dX5_takeNumber_41 : decode cX5_takeNumber 41 = .ok (.aload_n 0, 1) := by decide +kernel
theorem dX5_takeNumber_42 : decode cX5_takeNumber 42 = .ok (.iconst 4, 1) := by decide +kernel
theorem dX5_takeNumber_43 : decode cX5_takeNumber 43 = .ok (.aload_n 0, 1) := by decide +kernel
theorem dX5_takeNumber_44 : decode cX5_takeNumber 44 = .ok (.getfield 19, 3) := by decide +kernel
theorem dX5_takeNumber_47 : decode cX5_takeNumber 47 = .ok (.invokevirtual 73, 3) := by decide +kernel
theorem dX5_takeNumber_50 : decode cX5_takeNumber 50 = .ok (.aload_n 0, 1) := by decide +kernel
theorem dX5_takeNumber_51 : decode cX5_takeNumber 51 = .ok (.invokevirtual 114, 3) := by decide +kernel
theorem dX5_takeNumber_54 : decode cX5_takeNumber 54 = .ok (.iload_n 3, 1) := by decide +kernel
theorem dX5_takeNumber_55 : decode cX5_takeNumber 55 = .ok (.ireturn, 1) := by decide +kernel
def fX5_takeNumber_50 (x3 : Int32) (σ : zS) : Option (Int32 × zS) := bnr (fX5_advance σ) fun σ3 => some (x3, σ3)
theorem kX5_takeNumber_50 {sc : Nat × (Nat → Int32)} (x3 : Int32) (σ : zS) (w : Int32 × zS) (h : fX5_takeNumber_50 x3 σ = some w) : zR (zY0 sc) 7 0 0 mX5_takeNumber 50 [(0, .ref 54), (3, .int x3)] [] (zE σ) (some (.int w.1), zE w.2) := by
  unfold fX5_takeNumber_50 at h
  refine kR.aload_n dX5_takeNumber_50 0 rfl ?_
  obtain ⟨σ3, e4, h⟩ := bnr_some h
  refine kR.cVv [] dX5_takeNumber_51 rfl (by decide) mwX5_114 zp54 (by decide) rfl rfl (Nat.le_of_ble_eq_true rfl) (lX5_advance σ _ e4) ?_
  refine kR.iload_n dX5_takeNumber_54 1 rfl ?_
  exact kR.iretW dX5_takeNumber_55 (nzI rfl _) h
def fX5_takeNumber_41 (x3 : Int32) (σ : zS) : Option (Int32 × zS) := bnr (fX5_fail 4 (iG σ 54 4) σ) fun σ1 => fX5_takeNumber_50 x3 σ1
theorem kX5_takeNumber_41 {sc : Nat × (Nat → Int32)} (x3 : Int32) (σ : zS) (w : Int32 × zS) (h : fX5_takeNumber_41 x3 σ = some w) : zR (zY0 sc) 7 0 0 mX5_takeNumber 41 [(0, .ref 54), (3, .int x3)] [] (zE σ) (some (.int w.1), zE w.2) := by
  unfold fX5_takeNumber_41 at h
  refine kR.aload_n dX5_takeNumber_41 0 rfl ?_
  refine zR.iconst (v := 4) dX5_takeNumber_42 (by decide) ?_
  refine kR.aload_n dX5_takeNumber_43 0 rfl ?_
  refine kR.getI dX5_takeNumber_44 flX5_19 zcf5 zp54 (Or.inl rfl) ?_
  obtain ⟨σ1, e2, h⟩ := bnr_some h
  refine kR.cVv [.int 4, .int (iG σ 54 4)] dX5_takeNumber_47 rfl (by decide) mwX5_73 zp54 (by decide) rfl rfl (Nat.le_of_ble_eq_true rfl) (lX5_fail 4 (iG σ 54 4) σ _ e2) ?_
  exact kX5_takeNumber_50 _ _ _ h
def fX5_takeNumber (p1 : Int32) (p2 : Int32) (σ : zS) : Option (Int32 × zS) := if (iG σ 54 5) = 3 then if (iG σ 54 8) < p1 then fX5_takeNumber_41 (iG σ 54 8) σ else if (iG σ 54 8) ≤ p2 then fX5_takeNumber_50 (iG σ 54 8) σ else fX5_takeNumber_41 (iG σ 54 8) σ else bnr (fX5_fail 1 (iG σ 54 4) σ) fun σ5 => fX5_takeNumber_50 (iG σ 54 8) σ5
theorem eX5_takeNumber {sc : Nat × (Nat → Int32)} (p1 : Int32) (p2 : Int32) (σ : zS) (w : Int32 × zS) (h : fX5_takeNumber p1 p2 σ = some w) : zR (zY0 sc) 7 0 0 mX5_takeNumber 0 [(0, .ref 54), (1, .int p1), (2, .int p2)] [] (zE σ) (some (.int w.1), zE w.2) := by
  unfold fX5_takeNumber at h
  refine kR.aload_n dX5_takeNumber_0 0 rfl ?_
  refine kR.getI dX5_takeNumber_1 flX5_31 zcf5 zp54 (Or.inl rfl) ?_
  refine zR.istore_n (i := 3) (ls' := [(3, .int (iG σ 54 8)), (0, .ref 54), (1, .int p1), (2, .int p2)]) dX5_takeNumber_4 rfl (by decide) rfl ?_
  refine kR.aload_n dX5_takeNumber_5 1 rfl ?_
  refine kR.getI dX5_takeNumber_6 flX5_22 zcf5 zp54 (Or.inl rfl) ?_
  refine zR.iconst (v := 3) dX5_takeNumber_9 (by decide) ?_
  refine kR.icmp_eq (tgt := 25) dX5_takeNumber_10 (by decide) h (fun h => ?_) (fun h => ?_)
  · refine kR.aload_n dX5_takeNumber_25 1 rfl ?_
    refine kR.getI dX5_takeNumber_26 flX5_31 zcf5 zp54 (Or.inl rfl) ?_
    refine kR.iload_n dX5_takeNumber_29 2 rfl ?_
    refine kR.icmp_lt (tgt := 41) dX5_takeNumber_30 (by decide) h (fun h => ?_) (fun h => ?_)
    · refine zR.sub [1, 0] rfl ?_
      exact kX5_takeNumber_41 _ _ _ h
    · refine kR.aload_n dX5_takeNumber_33 1 rfl ?_
      refine kR.getI dX5_takeNumber_34 flX5_31 zcf5 zp54 (Or.inl rfl) ?_
      refine kR.iload_n dX5_takeNumber_37 3 rfl ?_
      refine kR.icmp_le (tgt := 50) dX5_takeNumber_38 (by decide) h (fun h => ?_) (fun h => ?_)
      · refine zR.sub [1, 0] rfl ?_
        exact kX5_takeNumber_50 _ _ _ h
      · refine zR.sub [1, 0] rfl ?_
        exact kX5_takeNumber_41 _ _ _ h
  · refine kR.aload_n dX5_takeNumber_13 1 rfl ?_
    refine zR.iconst (v := 1) dX5_takeNumber_14 (by decide) ?_
    refine kR.aload_n dX5_takeNumber_15 1 rfl ?_
    refine kR.getI dX5_takeNumber_16 flX5_19 zcf5 zp54 (Or.inl rfl) ?_
    obtain ⟨σ5, e6, h⟩ := bnr_some h
    refine kR.cVv [.int 1, .int (iG σ 54 4)] dX5_takeNumber_19 rfl (by decide) mwX5_73 zp54 (by decide) rfl rfl (Nat.le_of_ble_eq_true rfl) (lX5_fail 1 (iG σ 54 4) σ _ e6) ?_
    refine zR.goto (tgt := 50) dX5_takeNumber_22 (by decide) ?_
    refine zR.sub [1, 0] rfl ?_
    exact kX5_takeNumber_50 _ _ _ h
theorem lX5_takeNumber {sc : Nat × (Nat → Int32)} (p1 : Int32) (p2 : Int32) (σ : zS) (w : Int32 × zS) (h : fX5_takeNumber p1 p2 σ = some w) : zC (zY0 sc) 7 0 0 mX5_takeNumber [.ref 54, .int p1, .int p2] (zE σ) (some (.int w.1), zE w.2) := zC.of (by decide +kernel) (Nat.le_of_ble_eq_true rfl) ⟨_, rfl⟩ (eX5_takeNumber p1 p2 σ w h)
theorem dX10_valueAt_0 : decode cX10_valueAt 0 = .ok (.iload_n 1, 1) := by decide +kernel
theorem dX10_valueAt_1 : decode cX10_valueAt 1 = .ok (.ifCond .lt 15, 3) := by decide +kernel
theorem dX10_valueAt_4 : decode cX10_valueAt 4 = .ok (.iload_n 1, 1) := by decide +kernel
theorem dX10_valueAt_5 : decode cX10_valueAt 5 = .ok (.aload_n 0, 1) := by decide +kernel
theorem dX10_valueAt_6 : decode cX10_valueAt 6 = .ok (.arraylength, 1) := by decide +kernel
theorem dX10_valueAt_7 : decode cX10_valueAt 7 = .ok (.if_icmp .ge 9, 3) := by decide +kernel
theorem dX10_valueAt_10 : decode cX10_valueAt 10 = .ok (.aload_n 0, 1) := by decide +kernel
theorem dX10_valueAt_11 : decode cX10_valueAt 11 = .ok (.iload_n 1, 1) := by decide +kernel
theorem dX10_valueAt_12 : decode cX10_valueAt 12 = .ok (.iaload, 1) := by decide +kernel
theorem dX10_valueAt_13 : decode cX10_valueAt 13 = .ok (.goto 4, 3) := by decide +kernel
theorem dX10_valueAt_16 : decode cX10_valueAt 16 = .ok (.iconst 0, 1) := by decide +kernel
theorem dX10_valueAt_17 : decode cX10_valueAt 17 = .ok (.ireturn, 1) := by decide +kernel
def fX10_valueAt (a0 : Nat) (n0 : Nat) (σ : zS) (p1 : Int32) : Option Int32 := if p1 < 0 then some 0 else if (Int32.ofNat n0) ≤ p1 then some 0 else aI σ a0 n0 p1 fun v1 => some v1
theorem eX10_valueAt {sc : Nat × (Nat → Int32)} (a0 : Nat) (n0 : Nat) (σ : zS) (ha0 : ∀ σ, zAt (zY0 sc) (zE σ) a0 20) (hna0 : (zY0 sc).2.1 a0 = n0) (hma0 : n0 ≤ 2147483647) (p1 : Int32) (w : Int32) (h : fX10_valueAt a0 n0 σ p1 = some w) : zR (zY0 sc) 1 0 0 mX10_valueAt 0 [(0, .ref a0), (1, .int p1)] [] (zE σ) (some (.int w), zE σ) := by
  unfold fX10_valueAt at h
  refine kR.iload_n dX10_valueAt_0 1 rfl ?_
  refine kR.if_lt (tgt := 16) dX10_valueAt_1 (by decide) h (fun h => ?_) (fun h => ?_)
  · refine zR.iconst (v := 0) dX10_valueAt_16 (by decide) ?_
    exact kR.iretO dX10_valueAt_17 (nzI rfl _) h
  · refine kR.iload_n dX10_valueAt_4 1 rfl ?_
    refine kR.aload_n dX10_valueAt_5 0 rfl ?_
    refine zR.alen (v := Int32.ofNat n0) dX10_valueAt_6 (Or.inl (ha0 _)) (by rw [hna0]) ?_
    refine kR.icmp_ge (tgt := 16) dX10_valueAt_7 (by decide) h (fun h => ?_) (fun h => ?_)
    · refine zR.iconst (v := 0) dX10_valueAt_16 (by decide) ?_
      exact kR.iretO dX10_valueAt_17 (nzI rfl _) h
    · refine kR.aload_n dX10_valueAt_10 0 rfl ?_
      refine kR.iload_n dX10_valueAt_11 1 rfl ?_
      refine kR.iald dX10_valueAt_12 (ha0 _) hna0 h (fun v1 h => ?_)
      refine zR.goto (tgt := 17) dX10_valueAt_13 (by decide) ?_
      exact kR.iretO dX10_valueAt_17 (nzI rfl _) h
theorem lX10_valueAt {sc : Nat × (Nat → Int32)} (a0 : Nat) (n0 : Nat) (σ : zS) (ha0 : ∀ σ, zAt (zY0 sc) (zE σ) a0 20) (hna0 : (zY0 sc).2.1 a0 = n0) (hma0 : n0 ≤ 2147483647) (p1 : Int32) (w : Int32) (h : fX10_valueAt a0 n0 σ p1 = some w) : zC (zY0 sc) 1 0 0 mX10_valueAt [.ref a0, .int p1] (zE σ) (some (.int w), zE σ) := zC.of (by decide +kernel) (Nat.le_of_ble_eq_true rfl) ⟨_, rfl⟩ (eX10_valueAt a0 n0 σ ha0 hna0 hma0 p1 w h)
theorem aIv {β : Type} {σ : zS} {p n : Nat} {i : Int32} {F : Int32 → Option β} {w : β} (hn : n ≤ 2147483647) (h : aI σ p n i F = some w) : ∃ v, fX10_valueAt p n σ i = some v ∧ F v = some w := by
  obtain ⟨h1, h2⟩ := bq_aI h
  obtain ⟨h3, h4⟩ := bq_ix hn h1
  refine ⟨iG σ p i.toNatClampNeg, ?_, h2⟩
  unfold fX10_valueAt
  rw [if_neg h3, if_neg h4, bq_aIi h1]
theorem dX6_lengthCount_0 : decode cX6_lengthCount 0 = .ok (.aload_n 0, 1) := by decide +kernel
theorem dX6_lengthCount_1 : decode cX6_lengthCount 1 = .ok (.getfield 34, 3) := by decide +kernel
theorem dX6_lengthCount_4 : decode cX6_lengthCount 4 = .ok (.iload_n 1, 1) := by decide +kernel
theorem dX6_lengthCount_5 : decode cX6_lengthCount 5 = .ok (.invokestatic 81, 3) := by decide +kernel
theorem dX6_lengthCount_8 : decode cX6_lengthCount 8 = .ok (.ireturn, 1) := by decide +kernel
def fX6_lengthCount (b0 : Bool) (σ : zS) (p1 : Int32) : Option Int32 := aI σ (rp b0 + 3) 6 p1 fun v1 => some v1
theorem eX6_lengthCount {sc : Nat × (Nat → Int32)} (b0 : Bool) (σ : zS) (p1 : Int32) (w : Int32) (h : fX6_lengthCount b0 σ p1 = some w) : zR (zY0 sc) 2 0 0 mX6_lengthCount 0 [(0, .ref (rp b0 + 0)), (1, .int p1)] [] (zE σ) (some (.int w), zE σ) := by
  unfold fX6_lengthCount at h
  refine kR.aload_n dX6_lengthCount_0 0 rfl ?_
  refine kR.getR (v := (rp b0 + 3)) dX6_lengthCount_1 flX6_34 zcf6 (zq0 b0) (Or.inr ⟨_, rfl⟩) (zr0_7 _ b0) ?_
  refine kR.iload_n dX6_lengthCount_4 1 rfl ?_
  obtain ⟨v1, e0, h⟩ := aIv (Nat.le_of_ble_eq_true rfl) h
  refine kR.cSi [.ref (rp b0 + 3), .int p1] dX6_lengthCount_5 rfl (by decide) (Or.inr mwX6_81) rfl (Nat.le_of_ble_eq_true rfl) (lX10_valueAt (rp b0 + 3) 6 σ (fun _ => (zq3 b0)) (zl3 b0) (Nat.le_of_ble_eq_true rfl) p1 _ e0) ?_
  exact kR.iretO dX6_lengthCount_8 (nzI rfl _) h
theorem lX6_lengthCount {sc : Nat × (Nat → Int32)} (b0 : Bool) (σ : zS) (p1 : Int32) (w : Int32) (h : fX6_lengthCount b0 σ p1 = some w) : zC (zY0 sc) 2 0 0 mX6_lengthCount [.ref (rp b0 + 0), .int p1] (zE σ) (some (.int w), zE σ) := zC.of (by decide +kernel) (Nat.le_of_ble_eq_true rfl) ⟨_, rfl⟩ (eX6_lengthCount b0 σ p1 w h)
theorem aIlc {β : Type} {b : Bool} {σ : zS} {i : Int32} {F : Int32 → Option β} {w : β} (h : aI σ (rp b + 3) 6 i F = some w) : ∃ v, fX6_lengthCount b σ i = some v ∧ F v = some w := by
  obtain ⟨h1, h2⟩ := bq_aI h
  refine ⟨iG σ (rp b + 3) i.toNatClampNeg, ?_, h2⟩
  unfold fX6_lengthCount
  rw [bq_aIi h1]
theorem dX6_lengthAt_0 : decode cX6_lengthAt 0 = .ok (.aload_n 0, 1) := by decide +kernel
theorem dX6_lengthAt_1 : decode cX6_lengthAt 1 = .ok (.getfield 37, 3) := by decide +kernel
theorem dX6_lengthAt_4 : decode cX6_lengthAt 4 = .ok (.iload_n 1, 1) := by decide +kernel
theorem dX6_lengthAt_5 : decode cX6_lengthAt 5 = .ok (.iconst 4, 1) := by decide +kernel
theorem dX6_lengthAt_6 : decode cX6_lengthAt 6 = .ok (.imul, 1) := by decide +kernel
theorem dX6_lengthAt_7 : decode cX6_lengthAt 7 = .ok (.iload_n 2, 1) := by decide +kernel
theorem dX6_lengthAt_8 : decode cX6_lengthAt 8 = .ok (.iadd, 1) := by decide +kernel
theorem dX6_lengthAt_9 : decode cX6_lengthAt 9 = .ok (.invokestatic 81, 3) := by decide +kernel
theorem dX6_lengthAt_12 : decode cX6_lengthAt 12 = .ok (.ireturn, 1) := by decide +kernel
def fX6_lengthAt (b0 : Bool) (σ : zS) (p1 : Int32) (p2 : Int32) : Option Int32 := aI σ (rp b0 + 4) 24 ((p1 * 4) + p2) fun v1 => some v1
theorem eX6_lengthAt {sc : Nat × (Nat → Int32)} (b0 : Bool) (σ : zS) (p1 : Int32) (p2 : Int32) (w : Int32) (h : fX6_lengthAt b0 σ p1 p2 = some w) : zR (zY0 sc) 2 0 0 mX6_lengthAt 0 [(0, .ref (rp b0 + 0)), (1, .int p1), (2, .int p2)] [] (zE σ) (some (.int w), zE σ) := by
  unfold fX6_lengthAt at h
  refine kR.aload_n dX6_lengthAt_0 0 rfl ?_
  refine kR.getR (v := (rp b0 + 4)) dX6_lengthAt_1 flX6_37 zcf6 (zq0 b0) (Or.inr ⟨_, rfl⟩) (zr0_8 _ b0) ?_
  refine kR.iload_n dX6_lengthAt_4 1 rfl ?_
  refine zR.iconst (v := 4) dX6_lengthAt_5 (by decide) ?_
  refine zR.imul dX6_lengthAt_6 ?_
  refine kR.iload_n dX6_lengthAt_7 2 rfl ?_
  refine zR.iadd dX6_lengthAt_8 ?_
  obtain ⟨v1, e0, h⟩ := aIv (Nat.le_of_ble_eq_true rfl) h
  refine kR.cSi [.ref (rp b0 + 4), .int ((p1 * 4) + p2)] dX6_lengthAt_9 rfl (by decide) (Or.inr mwX6_81) rfl (Nat.le_of_ble_eq_true rfl) (lX10_valueAt (rp b0 + 4) 24 σ (fun _ => (zq4 b0)) (zl4 b0) (Nat.le_of_ble_eq_true rfl) ((p1 * 4) + p2) _ e0) ?_
  exact kR.iretO dX6_lengthAt_12 (nzI rfl _) h
theorem lX6_lengthAt {sc : Nat × (Nat → Int32)} (b0 : Bool) (σ : zS) (p1 : Int32) (p2 : Int32) (w : Int32) (h : fX6_lengthAt b0 σ p1 p2 = some w) : zC (zY0 sc) 2 0 0 mX6_lengthAt [.ref (rp b0 + 0), .int p1, .int p2] (zE σ) (some (.int w), zE σ) := zC.of (by decide +kernel) (Nat.le_of_ble_eq_true rfl) ⟨_, rfl⟩ (eX6_lengthAt b0 σ p1 p2 w h)
theorem dX6_hasLength_0 : decode cX6_hasLength 0 = .ok (.iconst 0, 1) := by decide +kernel
theorem dX6_hasLength_1 : decode cX6_hasLength 1 = .ok (.istore_n 3, 1) := by decide +kernel
theorem dX6_hasLength_2 : decode cX6_hasLength 2 = .ok (.iload_n 3, 1) := by decide +kernel
theorem dX6_hasLength_3 : decode cX6_hasLength 3 = .ok (.aload_n 0, 1) := by decide +kernel
theorem dX6_hasLength_4 : decode cX6_hasLength 4 = .ok (.iload_n 1, 1) := by decide +kernel
theorem dX6_hasLength_5 : decode cX6_hasLength 5 = .ok (.invokevirtual 85, 3) := by decide +kernel
theorem dX6_hasLength_8 : decode cX6_hasLength 8 = .ok (.if_icmp .ge 21, 3) := by decide +kernel
theorem dX6_hasLength_11 : decode cX6_hasLength 11 = .ok (.aload_n 0, 1) := by decide +kernel
theorem dX6_hasLength_12 : decode cX6_hasLength 12 = .ok (.iload_n 1, 1) := by decide +kernel
theorem dX6_hasLength_13 : decode cX6_hasLength 13 = .ok (.iload_n 3, 1) := by decide +kernel
theorem dX6_hasLength_14 : decode cX6_hasLength 14 = .ok (.invokevirtual 89, 3) := by decide +kernel
theorem dX6_hasLength_17 : decode cX6_hasLength 17 = .ok (.iload_n 2, 1) := by decide +kernel
theorem dX6_hasLength_18 : decode cX6_hasLength 18 = .ok (.if_icmp .ne 5, 3) := by decide +kernel
theorem dX6_hasLength_21 : decode cX6_hasLength 21 = .ok (.iconst 1, 1) := by decide +kernel
theorem dX6_hasLength_22 : decode cX6_hasLength 22 = .ok (.ireturn, 1) := by decide +kernel
theorem dX6_hasLength_23 : decode cX6_hasLength 23 = .ok (.iinc 3 1, 3) := by decide +kernel
theorem dX6_hasLength_26 : decode cX6_hasLength 26 = .ok (.goto (-24), 3) := by decide +kernel
theorem dX6_hasLength_29 : decode cX6_hasLength 29 = .ok (.iconst 0, 1) := by decide +kernel
theorem dX6_hasLength_30 : decode cX6_hasLength 30 = .ok (.ireturn, 1) := by decide +kernel
def fX6_hasLength_2 (b0 : Bool) (σ : zS) : Nat → Int32 → Int32 → Int32 → Option Int32
  | 0, _, _, _ => none
  | f + 1, x1, x2, x3 => aI σ (rp b0 + 3) 6 x1 fun v1 => if v1 ≤ x3 then some 0 else bnr (fX6_lengthAt b0 σ x1 x3) fun v2 => if v2 = x2 then some 1 else fX6_hasLength_2 b0 σ f x1 x2 (x3 + 1)
theorem kX6_hasLength_2 {sc : Nat × (Nat → Int32)} (b0 : Bool) (σ : zS) : ∀ (fuel : Nat) (x1 : Int32) (x2 : Int32) (x3 : Int32) (w : Int32) (h : fX6_hasLength_2 b0 σ fuel x1 x2 x3 = some w), zR (zY0 sc) 3 0 0 mX6_hasLength 2 [(0, .ref (rp b0 + 0)), (1, .int x1), (2, .int x2), (3, .int x3)] [] (zE σ) (some (.int w), zE σ) := by
  intro fuel
  induction fuel with
  | zero => intro x1 x2 x3 w h; exact nomatch h
  | succ f ih =>
    intro x1 x2 x3 w h
    rw [fX6_hasLength_2] at h
    refine kR.iload_n dX6_hasLength_2 3 rfl ?_
    refine kR.aload_n dX6_hasLength_3 0 rfl ?_
    refine kR.iload_n dX6_hasLength_4 1 rfl ?_
    obtain ⟨v1, e0, h⟩ := aIlc h
    refine kR.cVi [.int x1] dX6_hasLength_5 rfl (by decide) mwX6_85 (zq0 b0) (by decide) rfl rfl (Nat.le_of_ble_eq_true rfl) (lX6_lengthCount b0 σ x1 _ e0) ?_
    refine kR.icmp_ge (tgt := 29) dX6_hasLength_8 (by decide) h (fun h => ?_) (fun h => ?_)
    · refine zR.iconst (v := 0) dX6_hasLength_29 (by decide) ?_
      exact kR.iretO dX6_hasLength_30 (nzZ rfl (Or.inl rfl)) h
    · refine kR.aload_n dX6_hasLength_11 0 rfl ?_
      refine kR.iload_n dX6_hasLength_12 1 rfl ?_
      refine kR.iload_n dX6_hasLength_13 3 rfl ?_
      obtain ⟨v2, e3, h⟩ := bnr_some h
      refine kR.cVi [.int x1, .int x3] dX6_hasLength_14 rfl (by decide) mwX6_89 (zq0 b0) (by decide) rfl rfl (Nat.le_of_ble_eq_true rfl) (lX6_lengthAt b0 σ x1 x3 _ e3) ?_
      refine kR.iload_n dX6_hasLength_17 2 rfl ?_
      refine kR.icmp_ne (tgt := 23) dX6_hasLength_18 (by decide) h (fun h => ?_) (fun h => ?_)
      · refine zR.iinc 3 (v := x3 + 1) (ls' := [(3, .int (x3 + 1)), (0, .ref (rp b0 + 0)), (1, .int x1), (2, .int x2)]) dX6_hasLength_23 rfl rfl (by decide) rfl ?_
        refine zR.goto (tgt := 2) dX6_hasLength_26 (by decide) ?_
        refine zR.sub [1, 2, 3, 0] rfl ?_
        exact ih _ _ _ _ h
      · refine zR.iconst (v := 1) dX6_hasLength_21 (by decide) ?_
        exact kR.iretO dX6_hasLength_22 (nzZ rfl (Or.inr rfl)) h
def fX6_hasLength (b0 : Bool) (σ : zS) (p1 : Int32) (p2 : Int32) : Option Int32 := fX6_hasLength_2 b0 σ zF p1 p2 0
theorem eX6_hasLength {sc : Nat × (Nat → Int32)} (b0 : Bool) (σ : zS) (p1 : Int32) (p2 : Int32) (w : Int32) (h : fX6_hasLength b0 σ p1 p2 = some w) : zR (zY0 sc) 3 0 0 mX6_hasLength 0 [(0, .ref (rp b0 + 0)), (1, .int p1), (2, .int p2)] [] (zE σ) (some (.int w), zE σ) := by
  unfold fX6_hasLength at h
  refine zR.iconst (v := 0) dX6_hasLength_0 (by decide) ?_
  refine zR.istore_n (i := 3) (ls' := [(3, .int 0), (0, .ref (rp b0 + 0)), (1, .int p1), (2, .int p2)]) dX6_hasLength_1 rfl (by decide) rfl ?_
  refine zR.sub [1, 2, 3, 0] rfl ?_
  exact kX6_hasLength_2 b0 σ zF _ _ _ _ h
theorem lX6_hasLength {sc : Nat × (Nat → Int32)} (b0 : Bool) (σ : zS) (p1 : Int32) (p2 : Int32) (w : Int32) (h : fX6_hasLength b0 σ p1 p2 = some w) : zC (zY0 sc) 3 0 0 mX6_hasLength [.ref (rp b0 + 0), .int p1, .int p2] (zE σ) (some (.int w), zE σ) := zC.of (by decide +kernel) (Nat.le_of_ble_eq_true rfl) ⟨_, rfl⟩ (eX6_hasLength b0 σ p1 p2 w h)
theorem dX5_readLength_0 : decode cX5_readLength 0 = .ok (.aload_n 0, 1) := by decide +kernel
theorem dX5_readLength_1 : decode cX5_readLength 1 = .ok (.getfield 44, 3) := by decide +kernel
theorem dX5_readLength_4 : decode cX5_readLength 4 = .ok (.iload_n 1, 1) := by decide +kernel
theorem dX5_readLength_5 : decode cX5_readLength 5 = .ok (.invokevirtual 182, 3) := by decide +kernel
theorem dX5_readLength_8 : decode cX5_readLength 8 = .ok (.istore_n 2, 1) := by decide +kernel
theorem dX5_readLength_9 : decode cX5_readLength 9 = .ok (.iload_n 2, 1) := by decide +kernel
theorem dX5_readLength_10 : decode cX5_readLength 10 = .ok (.iconst 4, 1) := by decide +kernel
theorem dX5_readLength_11 : decode cX5_readLength 11 = .ok (.if_icmp .lt 14, 3) := by decide +kernel
theorem dX5_readLength_14 : decode cX5_readLength 14 = .ok (.aload_n 0, 1) := by decide +kernel
theorem dX5_readLength_15 : decode cX5_readLength 15 = .ok (.bipush 6, 2) := by decide +kernel
theorem dX5_readLength_17 : decode cX5_readLength 17 = .ok (.aload_n 0, 1) := by decide +kernel
theorem dX5_readLength_18 : decode cX5_readLength 18 = .ok (.getfield 19, 3) := by decide +kernel
theorem dX5_readLength_21 : decode cX5_readLength 21 = .ok (.invokevirtual 73, 3) := by decide +kernel
theorem dX5_readLength_24 : decode cX5_readLength 24 = .ok (.return_, 1) := by decide +kernel
theorem dX5_readLength_25 : decode cX5_readLength 25 = .ok (.aload_n 0, 1) := by decide +kernel
theorem dX5_readLength_26 : decode cX5_readLength 26 = .ok (.iconst 2, 1) := by decide +kernel
theorem dX5_readLength_27 : decode cX5_readLength 27 = .ok (.invokevirtual 173, 3) := by decide +kernel
theorem dX5_readLength_30 : decode cX5_readLength 30 = .ok (.aload_n 0, 1) := by decide +kernel
theorem dX5_readLength_31 : decode cX5_readLength 31 = .ok (.getfield 22, 3) := by decide +kernel
theorem dX5_readLength_34 : decode cX5_readLength 34 = .ok (.iconst 3, 1) := by decide +kernel
theorem dX5_readLength_35 : decode cX5_readLength 35 = .ok (.if_icmp .ne 27, 3) := by decide +kernel
theorem dX5_readLength_38 : decode cX5_readLength 38 = .ok (.aload_n 0, 1) := by decide +kernel
theorem dX5_readLength_39 : decode cX5_readLength 39 = .ok (.getfield 44, 3) := by decide +kernel
theorem dX5_readLength_42 : decode cX5_readLength 42 = .ok (.iload_n 1, 1) := by decide +kernel
theorem dX5_readLength_43 : decode cX5_readLength 43 = .ok (.aload_n 0, 1) := by decide +kernel
theorem dX5_readLength_44 : decode cX5_readLength 44 = .ok (.getfield 31, 3) := by decide +kernel
theorem dX5_readLength_47 : decode cX5_readLength 47 = .ok (.invokevirtual 185, 3) := by decide +kernel
theorem dX5_readLength_50 : decode cX5_readLength 50 = .ok (.ifCond .eq 12, 3) := by decide +kernel
theorem dX5_readLength_53 : decode cX5_readLength 53 = .ok (.aload_n 0, 1) := by decide +kernel
theorem dX5_readLength_54 : decode cX5_readLength 54 = .ok (.iconst 4, 1) := by decide +kernel
theorem dX5_readLength_55 : decode cX5_readLength 55 = .ok (.aload_n 0, 1) := by decide +kernel
theorem dX5_readLength_56 : decode cX5_readLength 56 = .ok (.getfield 19, 3) := by decide +kernel
theorem dX5_readLength_59 : decode cX5_readLength 59 = .ok (.invokevirtual 73, 3) := by decide +kernel
theorem dX5_readLength_62 : decode cX5_readLength 62 = .ok (.aload_n 0, 1) := by decide +kernel
theorem dX5_readLength_63 : decode cX5_readLength 63 = .ok (.getfield 44, 3) := by decide +kernel
theorem dX5_readLength_66 : decode cX5_readLength 66 = .ok (.getfield 189, 3) := by decide +kernel
theorem dX5_readLength_69 : decode cX5_readLength 69 = .ok (.iload_n 1, 1) := by decide +kernel
theorem dX5_readLength_70 : decode cX5_readLength 70 = .ok (.iconst 4, 1) := by decide +kernel
theorem dX5_readLength_71 : decode cX5_readLength 71 = .ok (.imul, 1) := by decide +kernel
theorem dX5_readLength_72 : decode cX5_readLength 72 = .ok (.iload_n 2, 1) := by decide +kernel
theorem dX5_readLength_73 : decode cX5_readLength 73 = .ok (.iadd, 1) := by decide +kernel
theorem dX5_readLength_74 : decode cX5_readLength 74 = .ok (.aload_n 0, 1) := by decide +kernel
theorem dX5_readLength_75 : decode cX5_readLength 75 = .ok (.iconst 1, 1) := by decide +kernel
theorem dX5_readLength_76 : decode cX5_readLength 76 = .ok (.bipush 60, 2) := by decide +kernel
theorem dX5_readLength_78 : decode cX5_readLength 78 = .ok (.invokevirtual 150, 3) := by decide +kernel
theorem dX5_readLength_81 : decode cX5_readLength 81 = .ok (.invokestatic 169, 3) := by decide +kernel
theorem dX5_readLength_84 : decode cX5_readLength 84 = .ok (.aload_n 0, 1) := by decide +kernel
theorem dX5_readLength_85 : decode cX5_readLength 85 = .ok (.iconst 3, 1) := by decide +kernel
theorem dX5_readLength_86 : decode cX5_readLength 86 = .ok (.invokevirtual 173, 3) := by decide +kernel
theorem dX5_readLength_89 : decode cX5_readLength 89 = .ok (.aload_n 0, 1) := by decide +kernel
theorem dX5_readLength_90 : decode cX5_readLength 90 = .ok (.getfield 44, 3) := by decide +kernel
theorem dX5_readLength_93 : decode cX5_readLength 93 = .ok (.getfield 192, 3) := by decide +kernel
theorem dX5_readLength_96 : decode cX5_readLength 96 = .ok (.iload_n 1, 1) := by decide +kernel
theorem dX5_readLength_97 : decode cX5_readLength 97 = .ok (.iconst 4, 1) := by decide +kernel
theorem dX5_readLength_98 : decode cX5_readLength 98 = .ok (.imul, 1) := by decide +kernel
theorem dX5_readLength_99 : decode cX5_readLength 99 = .ok (.iload_n 2, 1) := by decide +kernel
theorem dX5_readLength_100 : decode cX5_readLength 100 = .ok (.iadd, 1) := by decide +kernel
theorem dX5_readLength_101 : decode cX5_readLength 101 = .ok (.aload_n 0, 1) := by decide +kernel
theorem dX5_readLength_102 : decode cX5_readLength 102 = .ok (.iconst 1, 1) := by decide +kernel
theorem dX5_readLength_103 : decode cX5_readLength 103 = .ok (.bipush 9, 2) := by decide +kernel
theorem dX5_readLength_105 : decode cX5_readLength 105 = .ok (.invokevirtual 150, 3) := by decide +kernel
theorem dX5_readLength_108 : decode cX5_readLength 108 = .ok (.invokestatic 169, 3) := by decide +kernel
theorem dX5_readLength_111 : decode cX5_readLength 111 = .ok (.aload_n 0, 1) := by decide +kernel
theorem dX5_readLength_112 : decode cX5_readLength 112 = .ok (.getfield 44, 3) := by decide +kernel
theorem dX5_readLength_115 : decode cX5_readLength 115 = .ok (.getfield 195, 3) := by decide +kernel
theorem dX5_readLength_118 : decode cX5_readLength 118 = .ok (.iload_n 1, 1) := by decide +kernel
theorem dX5_readLength_119 : decode cX5_readLength 119 = .ok (.iload_n 2, 1) := by decide +kernel
theorem dX5_readLength_120 : decode cX5_readLength 120 = .ok (.iconst 1, 1) := by decide +kernel
theorem dX5_readLength_121 : decode cX5_readLength 121 = .ok (.iadd, 1) := by decide +kernel
theorem dX5_readLength_122 : decode cX5_readLength 122 = .ok (.invokestatic 169, 3) := by decide +kernel
theorem dX5_readLength_125 : decode cX5_readLength 125 = .ok (.return_, 1) := by decide +kernel
def fX5_readLength_63 (x1 : Int32) (x2 : Int32) (σ : zS) : Option zS := bnc (fX5_takeNumber 1 60 σ) fun v6 σ4 => wI σ4 (rp σ.2.2.2.2 + 4) 24 ((x1 * 4) + x2) v6 fun σ7 => bnr (fX5_takeWord 3 σ7) fun σ8 => bnc (fX5_takeNumber 1 9 σ8) fun v12 σ10 => wI σ10 (rp σ8.2.2.2.2 + 5) 24 ((x1 * 4) + x2) v12 fun σ13 => wI σ13 (rp σ13.2.2.2.2 + 3) 6 x1 (x2 + 1) fun σ14 => some σ14
theorem kX5_readLength_62 {sc : Nat × (Nat → Int32)} (x1 : Int32) (x2 : Int32) (σ : zS) (w : zS) (h : fX5_readLength_63 x1 x2 σ = some w) : zR (zY0 sc) 8 0 0 mX5_readLength 62 [(0, .ref 54), (1, .int x1), (2, .int x2)] [] (zE σ) (none, zE w) := by
  unfold fX5_readLength_63 at h
  refine kR.aload_n dX5_readLength_62 0 rfl ?_
  refine kR.getR (v := (rp σ.2.2.2.2 + 0)) dX5_readLength_63 flX5_44 zcf5 zp54 (Or.inl ⟨_, rfl⟩) rfl ?_
  refine kR.getR (v := (rp σ.2.2.2.2 + 4)) dX5_readLength_66 flX5_189 zcf6 (zq0 σ.2.2.2.2) (Or.inr ⟨_, rfl⟩) (zr0_8 _ σ.2.2.2.2) ?_
  refine kR.iload_n dX5_readLength_69 1 rfl ?_
  refine zR.iconst (v := 4) dX5_readLength_70 (by decide) ?_
  refine zR.imul dX5_readLength_71 ?_
  refine kR.iload_n dX5_readLength_72 2 rfl ?_
  refine zR.iadd dX5_readLength_73 ?_
  refine kR.aload_n dX5_readLength_74 0 rfl ?_
  refine zR.iconst (v := 1) dX5_readLength_75 (by decide) ?_
  refine zR.bipush (v := 60) dX5_readLength_76 (by decide) ?_
  obtain ⟨v6, σ4, e5, h⟩ := bnc_some h
  refine kR.cVi [.int 1, .int 60] dX5_readLength_78 rfl (by decide) mwX5_150 zp54 (by decide) rfl rfl (Nat.le_of_ble_eq_true rfl) (lX5_takeNumber 1 60 σ _ e5) ?_
  obtain ⟨σ7, e0, h⟩ := wIv (Nat.le_of_ble_eq_true rfl) h
  refine kR.cSv [.ref (rp σ.2.2.2.2 + 4), .int ((x1 * 4) + x2), .int v6] dX5_readLength_81 rfl (by decide) (Or.inr mwX5_169) rfl (Nat.le_of_ble_eq_true rfl) (lX10_setAt (rp σ.2.2.2.2 + 4) 24 (fun _ => (zq4 σ.2.2.2.2)) (zl4 σ.2.2.2.2) (Nat.le_of_ble_eq_true rfl) ((x1 * 4) + x2) v6 σ4 _ e0) ?_
  refine kR.aload_n dX5_readLength_84 0 rfl ?_
  refine zR.iconst (v := 3) dX5_readLength_85 (by decide) ?_
  obtain ⟨σ8, e9, h⟩ := bnr_some h
  refine kR.cVv [.int 3] dX5_readLength_86 rfl (by decide) mwX5_173 zp54 (by decide) rfl rfl (Nat.le_of_ble_eq_true rfl) (lX5_takeWord 3 σ7 _ e9) ?_
  refine kR.aload_n dX5_readLength_89 0 rfl ?_
  refine kR.getR (v := (rp σ8.2.2.2.2 + 0)) dX5_readLength_90 flX5_44 zcf5 zp54 (Or.inl ⟨_, rfl⟩) rfl ?_
  refine kR.getR (v := (rp σ8.2.2.2.2 + 5)) dX5_readLength_93 flX5_192 zcf6 (zq0 σ8.2.2.2.2) (Or.inr ⟨_, rfl⟩) (zr0_9 _ σ8.2.2.2.2) ?_
  refine kR.iload_n dX5_readLength_96 1 rfl ?_
  refine zR.iconst (v := 4) dX5_readLength_97 (by decide) ?_
  refine zR.imul dX5_readLength_98 ?_
  refine kR.iload_n dX5_readLength_99 2 rfl ?_
  refine zR.iadd dX5_readLength_100 ?_
  refine kR.aload_n dX5_readLength_101 0 rfl ?_
  refine zR.iconst (v := 1) dX5_readLength_102 (by decide) ?_
  refine zR.bipush (v := 9) dX5_readLength_103 (by decide) ?_
  obtain ⟨v12, σ10, e11, h⟩ := bnc_some h
  refine kR.cVi [.int 1, .int 9] dX5_readLength_105 rfl (by decide) mwX5_150 zp54 (by decide) rfl rfl (Nat.le_of_ble_eq_true rfl) (lX5_takeNumber 1 9 σ8 _ e11) ?_
  obtain ⟨σ13, e0, h⟩ := wIv (Nat.le_of_ble_eq_true rfl) h
  refine kR.cSv [.ref (rp σ8.2.2.2.2 + 5), .int ((x1 * 4) + x2), .int v12] dX5_readLength_108 rfl (by decide) (Or.inr mwX5_169) rfl (Nat.le_of_ble_eq_true rfl) (lX10_setAt (rp σ8.2.2.2.2 + 5) 24 (fun _ => (zq5 σ8.2.2.2.2)) (zl5 σ8.2.2.2.2) (Nat.le_of_ble_eq_true rfl) ((x1 * 4) + x2) v12 σ10 _ e0) ?_
  refine kR.aload_n dX5_readLength_111 0 rfl ?_
  refine kR.getR (v := (rp σ13.2.2.2.2 + 0)) dX5_readLength_112 flX5_44 zcf5 zp54 (Or.inl ⟨_, rfl⟩) rfl ?_
  refine kR.getR (v := (rp σ13.2.2.2.2 + 3)) dX5_readLength_115 flX5_195 zcf6 (zq0 σ13.2.2.2.2) (Or.inr ⟨_, rfl⟩) (zr0_7 _ σ13.2.2.2.2) ?_
  refine kR.iload_n dX5_readLength_118 1 rfl ?_
  refine kR.iload_n dX5_readLength_119 2 rfl ?_
  refine zR.iconst (v := 1) dX5_readLength_120 (by decide) ?_
  refine zR.iadd dX5_readLength_121 ?_
  obtain ⟨σ14, e0, h⟩ := wIv (Nat.le_of_ble_eq_true rfl) h
  refine kR.cSv [.ref (rp σ13.2.2.2.2 + 3), .int x1, .int (x2 + 1)] dX5_readLength_122 rfl (by decide) (Or.inr mwX5_169) rfl (Nat.le_of_ble_eq_true rfl) (lX10_setAt (rp σ13.2.2.2.2 + 3) 6 (fun _ => (zq3 σ13.2.2.2.2)) (zl3 σ13.2.2.2.2) (Nat.le_of_ble_eq_true rfl) x1 (x2 + 1) σ13 _ e0) ?_
  exact kR.vret dX5_readLength_125 h
def fX5_readLength (p1 : Int32) (σ : zS) : Option zS := aI σ (rp σ.2.2.2.2 + 3) 6 p1 fun v1 => if v1 < 4 then bnr (fX5_takeWord 2 σ) fun σ2 => if (iG σ2 54 5) = 3 then bnr (fX6_hasLength σ2.2.2.2.2 σ2 p1 (iG σ2 54 8)) fun v15 => if v15 = 0 then fX5_readLength_63 p1 v1 σ2 else bnr (fX5_fail 4 (iG σ2 54 4) σ2) fun σ17 => fX5_readLength_63 p1 v1 σ17 else fX5_readLength_63 p1 v1 σ2 else bnr (fX5_fail 6 (iG σ 54 4) σ) fun σ19 => some σ19
theorem eX5_readLength {sc : Nat × (Nat → Int32)} (p1 : Int32) (σ : zS) (w : zS) (h : fX5_readLength p1 σ = some w) : zR (zY0 sc) 8 0 0 mX5_readLength 0 [(0, .ref 54), (1, .int p1)] [] (zE σ) (none, zE w) := by
  unfold fX5_readLength at h
  refine kR.aload_n dX5_readLength_0 0 rfl ?_
  refine kR.getR (v := (rp σ.2.2.2.2 + 0)) dX5_readLength_1 flX5_44 zcf5 zp54 (Or.inl ⟨_, rfl⟩) rfl ?_
  refine kR.iload_n dX5_readLength_4 1 rfl ?_
  obtain ⟨v1, e0, h⟩ := aIlc h
  refine kR.cVi [.int p1] dX5_readLength_5 rfl (by decide) mwX5_182 (zq0 σ.2.2.2.2) (by decide) rfl rfl (Nat.le_of_ble_eq_true rfl) (lX6_lengthCount σ.2.2.2.2 σ p1 _ e0) ?_
  refine zR.istore_n (i := 2) (ls' := [(2, .int v1), (0, .ref 54), (1, .int p1)]) dX5_readLength_8 rfl (by decide) rfl ?_
  refine kR.iload_n dX5_readLength_9 0 rfl ?_
  refine zR.iconst (v := 4) dX5_readLength_10 (by decide) ?_
  refine kR.icmp_lt (tgt := 25) dX5_readLength_11 (by decide) h (fun h => ?_) (fun h => ?_)
  · refine kR.aload_n dX5_readLength_25 1 rfl ?_
    refine zR.iconst (v := 2) dX5_readLength_26 (by decide) ?_
    obtain ⟨σ2, e3, h⟩ := bnr_some h
    refine kR.cVv [.int 2] dX5_readLength_27 rfl (by decide) mwX5_173 zp54 (by decide) rfl rfl (Nat.le_of_ble_eq_true rfl) (lX5_takeWord 2 σ _ e3) ?_
    refine kR.aload_n dX5_readLength_30 1 rfl ?_
    refine kR.getI dX5_readLength_31 flX5_22 zcf5 zp54 (Or.inl rfl) ?_
    refine zR.iconst (v := 3) dX5_readLength_34 (by decide) ?_
    refine kR.icmp_ne (tgt := 62) dX5_readLength_35 (by decide) h (fun h => ?_) (fun h => ?_)
    · refine zR.sub [1, 2, 0] rfl ?_
      exact kX5_readLength_62 _ _ _ _ h
    · refine kR.aload_n dX5_readLength_38 1 rfl ?_
      refine kR.getR (v := (rp σ2.2.2.2.2 + 0)) dX5_readLength_39 flX5_44 zcf5 zp54 (Or.inl ⟨_, rfl⟩) rfl ?_
      refine kR.iload_n dX5_readLength_42 2 rfl ?_
      refine kR.aload_n dX5_readLength_43 1 rfl ?_
      refine kR.getI dX5_readLength_44 flX5_31 zcf5 zp54 (Or.inl rfl) ?_
      obtain ⟨v15, e16, h⟩ := bnr_some h
      refine kR.cVi [.int p1, .int (iG σ2 54 8)] dX5_readLength_47 rfl (by decide) mwX5_185 (zq0 σ2.2.2.2.2) (by decide) rfl rfl (Nat.le_of_ble_eq_true rfl) (lX6_hasLength σ2.2.2.2.2 σ2 p1 (iG σ2 54 8) _ e16) ?_
      refine kR.if_eq (tgt := 62) dX5_readLength_50 (by decide) h (fun h => ?_) (fun h => ?_)
      · refine zR.sub [1, 2, 0] rfl ?_
        exact kX5_readLength_62 _ _ _ _ h
      · refine kR.aload_n dX5_readLength_53 1 rfl ?_
        refine zR.iconst (v := 4) dX5_readLength_54 (by decide) ?_
        refine kR.aload_n dX5_readLength_55 1 rfl ?_
        refine kR.getI dX5_readLength_56 flX5_19 zcf5 zp54 (Or.inl rfl) ?_
        obtain ⟨σ17, e18, h⟩ := bnr_some h
        refine kR.cVv [.int 4, .int (iG σ2 54 4)] dX5_readLength_59 rfl (by decide) mwX5_73 zp54 (by decide) rfl rfl (Nat.le_of_ble_eq_true rfl) (lX5_fail 4 (iG σ2 54 4) σ2 _ e18) ?_
        refine zR.sub [1, 2, 0] rfl ?_
        exact kX5_readLength_62 _ _ _ _ h
  · refine kR.aload_n dX5_readLength_14 1 rfl ?_
    refine zR.bipush (v := 6) dX5_readLength_15 (by decide) ?_
    refine kR.aload_n dX5_readLength_17 1 rfl ?_
    refine kR.getI dX5_readLength_18 flX5_19 zcf5 zp54 (Or.inl rfl) ?_
    obtain ⟨σ19, e20, h⟩ := bnr_some h
    refine kR.cVv [.int 6, .int (iG σ 54 4)] dX5_readLength_21 rfl (by decide) mwX5_73 zp54 (by decide) rfl rfl (Nat.le_of_ble_eq_true rfl) (lX5_fail 6 (iG σ 54 4) σ _ e20) ?_
    exact kR.vret dX5_readLength_24 h
theorem lX5_readLength {sc : Nat × (Nat → Int32)} (p1 : Int32) (σ : zS) (w : zS) (h : fX5_readLength p1 σ = some w) : zC (zY0 sc) 8 0 0 mX5_readLength [.ref 54, .int p1] (zE σ) (none, zE w) := zC.of (by decide +kernel) (Nat.le_of_ble_eq_true rfl) rfl (eX5_readLength p1 σ w h)
theorem dX5_readTunnel_0 : decode cX5_readTunnel 0 = .ok (.aload_n 0, 1) := by decide +kernel
theorem dX5_readTunnel_1 : decode cX5_readTunnel 1 = .ok (.getfield 44, 3) := by decide +kernel
theorem dX5_readTunnel_4 : decode cX5_readTunnel 4 = .ok (.getfield 160, 3) := by decide +kernel
theorem dX5_readTunnel_7 : decode cX5_readTunnel 7 = .ok (.bipush 6, 2) := by decide +kernel
theorem dX5_readTunnel_9 : decode cX5_readTunnel 9 = .ok (.if_icmp .lt 14, 3) := by decide +kernel
theorem dX5_readTunnel_12 : decode cX5_readTunnel 12 = .ok (.aload_n 0, 1) := by decide +kernel
theorem dX5_readTunnel_13 : decode cX5_readTunnel 13 = .ok (.bipush 6, 2) := by decide +kernel
theorem dX5_readTunnel_15 : decode cX5_readTunnel 15 = .ok (.aload_n 0, 1) := by decide +kernel
theorem dX5_readTunnel_16 : decode cX5_readTunnel 16 = .ok (.getfield 19, 3) := by decide +kernel
theorem dX5_readTunnel_19 : decode cX5_readTunnel 19 = .ok (.invokevirtual 73, 3) := by decide +kernel
theorem dX5_readTunnel_22 : decode cX5_readTunnel 22 = .ok (.return_, 1) := by decide +kernel
theorem dX5_readTunnel_23 : decode cX5_readTunnel 23 = .ok (.aload_n 0, 1) := by decide +kernel
theorem dX5_readTunnel_24 : decode cX5_readTunnel 24 = .ok (.getfield 44, 3) := by decide +kernel
theorem dX5_readTunnel_27 : decode cX5_readTunnel 27 = .ok (.getfield 160, 3) := by decide +kernel
theorem dX5_readTunnel_30 : decode cX5_readTunnel 30 = .ok (.istore_n 1, 1) := by decide +kernel
theorem dX5_readTunnel_31 : decode cX5_readTunnel 31 = .ok (.aload_n 0, 1) := by decide +kernel
theorem dX5_readTunnel_32 : decode cX5_readTunnel 32 = .ok (.invokevirtual 114, 3) := by decide +kernel
theorem dX5_readTunnel_35 : decode cX5_readTunnel 35 = .ok (.aload_n 0, 1) := by decide +kernel
theorem dX5_readTunnel_36 : decode cX5_readTunnel 36 = .ok (.getfield 44, 3) := by decide +kernel
theorem dX5_readTunnel_39 : decode cX5_readTunnel 39 = .ok (.getfield 163, 3) := by decide +kernel
theorem dX5_readTunnel_42 : decode cX5_readTunnel 42 = .ok (.iload_n 1, 1) := by decide +kernel
theorem dX5_readTunnel_43 : decode cX5_readTunnel 43 = .ok (.aload_n 0, 1) := by decide +kernel
theorem dX5_readTunnel_44 : decode cX5_readTunnel 44 = .ok (.invokevirtual 166, 3) := by decide +kernel
theorem dX5_readTunnel_47 : decode cX5_readTunnel 47 = .ok (.invokestatic 169, 3) := by decide +kernel
theorem dX5_readTunnel_50 : decode cX5_readTunnel 50 = .ok (.aload_n 0, 1) := by decide +kernel
theorem dX5_readTunnel_51 : decode cX5_readTunnel 51 = .ok (.iconst 1, 1) := by decide +kernel
theorem dX5_readTunnel_52 : decode cX5_readTunnel 52 = .ok (.invokevirtual 173, 3) := by decide +kernel
theorem dX5_readTunnel_55 : decode cX5_readTunnel 55 = .ok (.aload_n 0, 1) := by decide +kernel
theorem dX5_readTunnel_56 : decode cX5_readTunnel 56 = .ok (.getfield 44, 3) := by decide +kernel
theorem dX5_readTunnel_59 : decode cX5_readTunnel 59 = .ok (.getfield 176, 3) := by decide +kernel
theorem dX5_readTunnel_62 : decode cX5_readTunnel 62 = .ok (.iload_n 1, 1) := by decide +kernel
theorem dX5_readTunnel_63 : decode cX5_readTunnel 63 = .ok (.aload_n 0, 1) := by decide +kernel
theorem dX5_readTunnel_64 : decode cX5_readTunnel 64 = .ok (.iconst 0, 1) := by decide +kernel
theorem dX5_readTunnel_65 : decode cX5_readTunnel 65 = .ok (.bipush 99, 2) := by decide +kernel
theorem dX5_readTunnel_67 : decode cX5_readTunnel 67 = .ok (.invokevirtual 150, 3) := by decide +kernel
theorem dX5_readTunnel_70 : decode cX5_readTunnel 70 = .ok (.invokestatic 169, 3) := by decide +kernel
theorem dX5_readTunnel_73 : decode cX5_readTunnel 73 = .ok (.aload_n 0, 1) := by decide +kernel
theorem dX5_readTunnel_74 : decode cX5_readTunnel 74 = .ok (.iload_n 1, 1) := by decide +kernel
theorem dX5_readTunnel_75 : decode cX5_readTunnel 75 = .ok (.invokevirtual 179, 3) := by decide +kernel
theorem dX5_readTunnel_78 : decode cX5_readTunnel 78 = .ok (.iconst 1, 1) := by decide +kernel
theorem dX5_readTunnel_79 : decode cX5_readTunnel 79 = .ok (.istore_n 2, 1) := by decide +kernel
theorem dX5_readTunnel_80 : decode cX5_readTunnel 80 = .ok (.iload_n 2, 1) := by decide +kernel
theorem dX5_readTunnel_81 : decode cX5_readTunnel 81 = .ok (.iconst 4, 1) := by decide +kernel
theorem dX5_readTunnel_82 : decode cX5_readTunnel 82 = .ok (.if_icmp .gt 22, 3) := by decide +kernel
theorem dX5_readTunnel_85 : decode cX5_readTunnel 85 = .ok (.aload_n 0, 1) := by decide +kernel
theorem dX5_readTunnel_86 : decode cX5_readTunnel 86 = .ok (.getfield 25, 3) := by decide +kernel
theorem dX5_readTunnel_89 : decode cX5_readTunnel 89 = .ok (.iconst 2, 1) := by decide +kernel
theorem dX5_readTunnel_90 : decode cX5_readTunnel 90 = .ok (.if_icmp .ne 14, 3) := by decide +kernel
theorem dX5_readTunnel_93 : decode cX5_readTunnel 93 = .ok (.aload_n 0, 1) := by decide +kernel
theorem dX5_readTunnel_94 : decode cX5_readTunnel 94 = .ok (.iload_n 1, 1) := by decide +kernel
theorem dX5_readTunnel_95 : decode cX5_readTunnel 95 = .ok (.invokevirtual 179, 3) := by decide +kernel
theorem dX5_readTunnel_98 : decode cX5_readTunnel 98 = .ok (.iinc 2 1, 3) := by decide +kernel
theorem dX5_readTunnel_101 : decode cX5_readTunnel 101 = .ok (.goto (-21), 3) := by decide +kernel
theorem dX5_readTunnel_104 : decode cX5_readTunnel 104 = .ok (.aload_n 0, 1) := by decide +kernel
theorem dX5_readTunnel_105 : decode cX5_readTunnel 105 = .ok (.getfield 44, 3) := by decide +kernel
theorem dX5_readTunnel_108 : decode cX5_readTunnel 108 = .ok (.dup, 1) := by decide +kernel
theorem dX5_readTunnel_109 : decode cX5_readTunnel 109 = .ok (.getfield 160, 3) := by decide +kernel
theorem dX5_readTunnel_112 : decode cX5_readTunnel 112 = .ok (.iconst 1, 1) := by decide +kernel
theorem dX5_readTunnel_113 : decode cX5_readTunnel 113 = .ok (.iadd, 1) := by decide +kernel
theorem dX5_readTunnel_114 : decode cX5_readTunnel 114 = .ok (.putfield 160, 3) := by decide +kernel
theorem dX5_readTunnel_117 : decode cX5_readTunnel 117 = .ok (.return_, 1) := by decide +kernel
def fX5_readTunnel_100 (σ : zS) : Option zS := bnd (iS σ (rp σ.2.2.2.2 + 0) 1 ((iG σ (rp σ.2.2.2.2 + 0) 1) + 1)) fun σ15 => some σ15
theorem kX5_readTunnel_104 {sc : Nat × (Nat → Int32)} (σ : zS) (w : zS) (h : fX5_readTunnel_100 σ = some w) : zR (zY0 sc) 9 0 0 mX5_readTunnel 104 [(0, .ref 54)] [] (zE σ) (none, zE w) := by
  unfold fX5_readTunnel_100 at h
  refine kR.aload_n dX5_readTunnel_104 0 rfl ?_
  refine kR.getR (v := (rp σ.2.2.2.2 + 0)) dX5_readTunnel_105 flX5_44 zcf5 zp54 (Or.inl ⟨_, rfl⟩) rfl ?_
  refine zR.dup dX5_readTunnel_108 rfl ?_
  refine kR.getI dX5_readTunnel_109 flX5_160 zcf6 (zq0 σ.2.2.2.2) (Or.inl rfl) ?_
  refine zR.iconst (v := 1) dX5_readTunnel_112 (by decide) ?_
  refine zR.iadd dX5_readTunnel_113 ?_
  refine kR.putI dX5_readTunnel_114 fpX5_160 zcf6 (zq0 σ.2.2.2.2) rfl h (fun σ15 h => ?_)
  exact kR.vret dX5_readTunnel_117 h
def fX5_readTunnel_76 : Nat → Int32 → Int32 → zS → Option zS
  | 0, _, _, _ => none
  | f + 1, x1, x2, σ => if 4 < x2 then fX5_readTunnel_100 σ else if (iG σ 54 6) = 2 then bnr (fX5_readLength x1 σ) fun σ16 => fX5_readTunnel_76 f x1 (x2 + 1) σ16 else fX5_readTunnel_100 σ
theorem kX5_readTunnel_80 {sc : Nat × (Nat → Int32)} : ∀ (fuel : Nat) (x1 : Int32) (x2 : Int32) (σ : zS) (w : zS) (h : fX5_readTunnel_76 fuel x1 x2 σ = some w), zR (zY0 sc) 9 0 0 mX5_readTunnel 80 [(0, .ref 54), (1, .int x1), (2, .int x2)] [] (zE σ) (none, zE w) := by
  intro fuel
  induction fuel with
  | zero => intro x1 x2 σ w h; exact nomatch h
  | succ f ih =>
    intro x1 x2 σ w h
    rw [fX5_readTunnel_76] at h
    refine kR.iload_n dX5_readTunnel_80 2 rfl ?_
    refine zR.iconst (v := 4) dX5_readTunnel_81 (by decide) ?_
    refine kR.icmp_gt (tgt := 104) dX5_readTunnel_82 (by decide) h (fun h => ?_) (fun h => ?_)
    · refine zR.sub [0] rfl ?_
      exact kX5_readTunnel_104 _ _ h
    · refine kR.aload_n dX5_readTunnel_85 0 rfl ?_
      refine kR.getI dX5_readTunnel_86 flX5_25 zcf5 zp54 (Or.inl rfl) ?_
      refine zR.iconst (v := 2) dX5_readTunnel_89 (by decide) ?_
      refine kR.icmp_ne (tgt := 104) dX5_readTunnel_90 (by decide) h (fun h => ?_) (fun h => ?_)
      · refine zR.sub [0] rfl ?_
        exact kX5_readTunnel_104 _ _ h
      · refine kR.aload_n dX5_readTunnel_93 0 rfl ?_
        refine kR.iload_n dX5_readTunnel_94 1 rfl ?_
        obtain ⟨σ16, e17, h⟩ := bnr_some h
        refine kR.cVv [.int x1] dX5_readTunnel_95 rfl (by decide) mwX5_179 zp54 (by decide) rfl rfl (Nat.le_of_ble_eq_true rfl) (lX5_readLength x1 σ _ e17) ?_
        refine zR.iinc 2 (v := x2 + 1) (ls' := [(2, .int (x2 + 1)), (0, .ref 54), (1, .int x1)]) dX5_readTunnel_98 rfl rfl (by decide) rfl ?_
        refine zR.goto (tgt := 80) dX5_readTunnel_101 (by decide) ?_
        refine zR.sub [1, 2, 0] rfl ?_
        exact ih _ _ _ _ h
def fX5_readTunnel (σ : zS) : Option zS := if (iG σ (rp σ.2.2.2.2 + 0) 1) < 6 then bnr (fX5_advance σ) fun σ1 => bnc (fX5_takeNewName σ1) fun v5 σ3 => wI σ3 (rp σ1.2.2.2.2 + 1) 6 (iG σ (rp σ.2.2.2.2 + 0) 1) v5 fun σ6 => bnr (fX5_takeWord 1 σ6) fun σ7 => bnc (fX5_takeNumber 0 99 σ7) fun v11 σ9 => wI σ9 (rp σ7.2.2.2.2 + 2) 6 (iG σ (rp σ.2.2.2.2 + 0) 1) v11 fun σ12 => bnr (fX5_readLength (iG σ (rp σ.2.2.2.2 + 0) 1) σ12) fun σ13 => fX5_readTunnel_76 zF (iG σ (rp σ.2.2.2.2 + 0) 1) 1 σ13 else bnr (fX5_fail 6 (iG σ 54 4) σ) fun σ18 => some σ18
theorem eX5_readTunnel {sc : Nat × (Nat → Int32)} (σ : zS) (w : zS) (h : fX5_readTunnel σ = some w) : zR (zY0 sc) 9 0 0 mX5_readTunnel 0 [(0, .ref 54)] [] (zE σ) (none, zE w) := by
  unfold fX5_readTunnel at h
  refine kR.aload_n dX5_readTunnel_0 0 rfl ?_
  refine kR.getR (v := (rp σ.2.2.2.2 + 0)) dX5_readTunnel_1 flX5_44 zcf5 zp54 (Or.inl ⟨_, rfl⟩) rfl ?_
  refine kR.getI dX5_readTunnel_4 flX5_160 zcf6 (zq0 σ.2.2.2.2) (Or.inl rfl) ?_
  refine zR.bipush (v := 6) dX5_readTunnel_7 (by decide) ?_
  refine kR.icmp_lt (tgt := 23) dX5_readTunnel_9 (by decide) h (fun h => ?_) (fun h => ?_)
  · refine kR.aload_n dX5_readTunnel_23 0 rfl ?_
    refine kR.getR (v := (rp σ.2.2.2.2 + 0)) dX5_readTunnel_24 flX5_44 zcf5 zp54 (Or.inl ⟨_, rfl⟩) rfl ?_
    refine kR.getI dX5_readTunnel_27 flX5_160 zcf6 (zq0 σ.2.2.2.2) (Or.inl rfl) ?_
    refine zR.istore_n (i := 1) (ls' := [(1, .int (iG σ (rp σ.2.2.2.2 + 0) 1)), (0, .ref 54)]) dX5_readTunnel_30 rfl (by decide) rfl ?_
    refine kR.aload_n dX5_readTunnel_31 1 rfl ?_
    obtain ⟨σ1, e2, h⟩ := bnr_some h
    refine kR.cVv [] dX5_readTunnel_32 rfl (by decide) mwX5_114 zp54 (by decide) rfl rfl (Nat.le_of_ble_eq_true rfl) (lX5_advance σ _ e2) ?_
    refine kR.aload_n dX5_readTunnel_35 1 rfl ?_
    refine kR.getR (v := (rp σ1.2.2.2.2 + 0)) dX5_readTunnel_36 flX5_44 zcf5 zp54 (Or.inl ⟨_, rfl⟩) rfl ?_
    refine kR.getR (v := (rp σ1.2.2.2.2 + 1)) dX5_readTunnel_39 flX5_163 zcf6 (zq0 σ1.2.2.2.2) (Or.inr ⟨_, rfl⟩) (zr0_5 _ σ1.2.2.2.2) ?_
    refine kR.iload_n dX5_readTunnel_42 0 rfl ?_
    refine kR.aload_n dX5_readTunnel_43 1 rfl ?_
    obtain ⟨v5, σ3, e4, h⟩ := bnc_some h
    refine kR.cVi [] dX5_readTunnel_44 rfl (by decide) mwX5_166 zp54 (by decide) rfl rfl (Nat.le_of_ble_eq_true rfl) (lX5_takeNewName σ1 _ e4) ?_
    obtain ⟨σ6, e0, h⟩ := wIv (Nat.le_of_ble_eq_true rfl) h
    refine kR.cSv [.ref (rp σ1.2.2.2.2 + 1), .int (iG σ (rp σ.2.2.2.2 + 0) 1), .int v5] dX5_readTunnel_47 rfl (by decide) (Or.inr mwX5_169) rfl (Nat.le_of_ble_eq_true rfl) (lX10_setAt (rp σ1.2.2.2.2 + 1) 6 (fun _ => (zq1 σ1.2.2.2.2)) (zl1 σ1.2.2.2.2) (Nat.le_of_ble_eq_true rfl) (iG σ (rp σ.2.2.2.2 + 0) 1) v5 σ3 _ e0) ?_
    refine kR.aload_n dX5_readTunnel_50 1 rfl ?_
    refine zR.iconst (v := 1) dX5_readTunnel_51 (by decide) ?_
    obtain ⟨σ7, e8, h⟩ := bnr_some h
    refine kR.cVv [.int 1] dX5_readTunnel_52 rfl (by decide) mwX5_173 zp54 (by decide) rfl rfl (Nat.le_of_ble_eq_true rfl) (lX5_takeWord 1 σ6 _ e8) ?_
    refine kR.aload_n dX5_readTunnel_55 1 rfl ?_
    refine kR.getR (v := (rp σ7.2.2.2.2 + 0)) dX5_readTunnel_56 flX5_44 zcf5 zp54 (Or.inl ⟨_, rfl⟩) rfl ?_
    refine kR.getR (v := (rp σ7.2.2.2.2 + 2)) dX5_readTunnel_59 flX5_176 zcf6 (zq0 σ7.2.2.2.2) (Or.inr ⟨_, rfl⟩) (zr0_6 _ σ7.2.2.2.2) ?_
    refine kR.iload_n dX5_readTunnel_62 0 rfl ?_
    refine kR.aload_n dX5_readTunnel_63 1 rfl ?_
    refine zR.iconst (v := 0) dX5_readTunnel_64 (by decide) ?_
    refine zR.bipush (v := 99) dX5_readTunnel_65 (by decide) ?_
    obtain ⟨v11, σ9, e10, h⟩ := bnc_some h
    refine kR.cVi [.int 0, .int 99] dX5_readTunnel_67 rfl (by decide) mwX5_150 zp54 (by decide) rfl rfl (Nat.le_of_ble_eq_true rfl) (lX5_takeNumber 0 99 σ7 _ e10) ?_
    obtain ⟨σ12, e0, h⟩ := wIv (Nat.le_of_ble_eq_true rfl) h
    refine kR.cSv [.ref (rp σ7.2.2.2.2 + 2), .int (iG σ (rp σ.2.2.2.2 + 0) 1), .int v11] dX5_readTunnel_70 rfl (by decide) (Or.inr mwX5_169) rfl (Nat.le_of_ble_eq_true rfl) (lX10_setAt (rp σ7.2.2.2.2 + 2) 6 (fun _ => (zq2 σ7.2.2.2.2)) (zl2 σ7.2.2.2.2) (Nat.le_of_ble_eq_true rfl) (iG σ (rp σ.2.2.2.2 + 0) 1) v11 σ9 _ e0) ?_
    refine kR.aload_n dX5_readTunnel_73 1 rfl ?_
    refine kR.iload_n dX5_readTunnel_74 0 rfl ?_
    obtain ⟨σ13, e14, h⟩ := bnr_some h
    refine kR.cVv [.int (iG σ (rp σ.2.2.2.2 + 0) 1)] dX5_readTunnel_75 rfl (by decide) mwX5_179 zp54 (by decide) rfl rfl (Nat.le_of_ble_eq_true rfl) (lX5_readLength (iG σ (rp σ.2.2.2.2 + 0) 1) σ12 _ e14) ?_
    refine zR.iconst (v := 1) dX5_readTunnel_78 (by decide) ?_
    refine zR.istore_n (i := 2) (ls' := [(2, .int 1), (1, .int (iG σ (rp σ.2.2.2.2 + 0) 1)), (0, .ref 54)]) dX5_readTunnel_79 rfl (by decide) rfl ?_
    refine zR.sub [2, 1, 0] rfl ?_
    exact kX5_readTunnel_80 zF _ _ _ _ h
  · refine kR.aload_n dX5_readTunnel_12 0 rfl ?_
    refine zR.bipush (v := 6) dX5_readTunnel_13 (by decide) ?_
    refine kR.aload_n dX5_readTunnel_15 0 rfl ?_
    refine kR.getI dX5_readTunnel_16 flX5_19 zcf5 zp54 (Or.inl rfl) ?_
    obtain ⟨σ18, e19, h⟩ := bnr_some h
    refine kR.cVv [.int 6, .int (iG σ 54 4)] dX5_readTunnel_19 rfl (by decide) mwX5_73 zp54 (by decide) rfl rfl (Nat.le_of_ble_eq_true rfl) (lX5_fail 6 (iG σ 54 4) σ _ e19) ?_
    exact kR.vret dX5_readTunnel_22 h
theorem lX5_readTunnel {sc : Nat × (Nat → Int32)} (σ : zS) (w : zS) (h : fX5_readTunnel σ = some w) : zC (zY0 sc) 9 0 0 mX5_readTunnel [.ref 54] (zE σ) (none, zE w) := zC.of (by decide +kernel) (Nat.le_of_ble_eq_true rfl) rfl (eX5_readTunnel σ w h)
theorem dX5_readHolder_0 : decode cX5_readHolder 0 = .ok (.aload_n 0, 1) := by decide +kernel
theorem dX5_readHolder_1 : decode cX5_readHolder 1 = .ok (.getfield 44, 3) := by decide +kernel
theorem dX5_readHolder_4 : decode cX5_readHolder 4 = .ok (.getfield 198, 3) := by decide +kernel
theorem dX5_readHolder_7 : decode cX5_readHolder 7 = .ok (.bipush 6, 2) := by decide +kernel
theorem dX5_readHolder_9 : decode cX5_readHolder 9 = .ok (.if_icmp .lt 14, 3) := by decide +kernel
theorem dX5_readHolder_12 : decode cX5_readHolder 12 = .ok (.aload_n 0, 1) := by decide +kernel
theorem dX5_readHolder_13 : decode cX5_readHolder 13 = .ok (.bipush 6, 2) := by decide +kernel
theorem dX5_readHolder_15 : decode cX5_readHolder 15 = .ok (.aload_n 0, 1) := by decide +kernel
theorem dX5_readHolder_16 : decode cX5_readHolder 16 = .ok (.getfield 19, 3) := by decide +kernel
theorem dX5_readHolder_19 : decode cX5_readHolder 19 = .ok (.invokevirtual 73, 3) := by decide +kernel
theorem dX5_readHolder_22 : decode cX5_readHolder 22 = .ok (.return_, 1) := by decide +kernel
theorem dX5_readHolder_23 : decode cX5_readHolder 23 = .ok (.aload_n 0, 1) := by decide +kernel
theorem dX5_readHolder_24 : decode cX5_readHolder 24 = .ok (.getfield 44, 3) := by decide +kernel
theorem dX5_readHolder_27 : decode cX5_readHolder 27 = .ok (.getfield 198, 3) := by decide +kernel
theorem dX5_readHolder_30 : decode cX5_readHolder 30 = .ok (.istore_n 1, 1) := by decide +kernel
theorem dX5_readHolder_31 : decode cX5_readHolder 31 = .ok (.aload_n 0, 1) := by decide +kernel
theorem dX5_readHolder_32 : decode cX5_readHolder 32 = .ok (.invokevirtual 114, 3) := by decide +kernel
theorem dX5_readHolder_35 : decode cX5_readHolder 35 = .ok (.aload_n 0, 1) := by decide +kernel
theorem dX5_readHolder_36 : decode cX5_readHolder 36 = .ok (.getfield 44, 3) := by decide +kernel
theorem dX5_readHolder_39 : decode cX5_readHolder 39 = .ok (.getfield 201, 3) := by decide +kernel
theorem dX5_readHolder_42 : decode cX5_readHolder 42 = .ok (.iload_n 1, 1) := by decide +kernel
theorem dX5_readHolder_43 : decode cX5_readHolder 43 = .ok (.aload_n 0, 1) := by decide +kernel
theorem dX5_readHolder_44 : decode cX5_readHolder 44 = .ok (.invokevirtual 166, 3) := by decide +kernel
theorem dX5_readHolder_47 : decode cX5_readHolder 47 = .ok (.invokestatic 169, 3) := by decide +kernel
theorem dX5_readHolder_50 : decode cX5_readHolder 50 = .ok (.aload_n 0, 1) := by decide +kernel
theorem dX5_readHolder_51 : decode cX5_readHolder 51 = .ok (.iconst 5, 1) := by decide +kernel
theorem dX5_readHolder_52 : decode cX5_readHolder 52 = .ok (.invokevirtual 173, 3) := by decide +kernel
theorem dX5_readHolder_55 : decode cX5_readHolder 55 = .ok (.aload_n 0, 1) := by decide +kernel
theorem dX5_readHolder_56 : decode cX5_readHolder 56 = .ok (.getfield 44, 3) := by decide +kernel
theorem dX5_readHolder_59 : decode cX5_readHolder 59 = .ok (.getfield 204, 3) := by decide +kernel
theorem dX5_readHolder_62 : decode cX5_readHolder 62 = .ok (.iload_n 1, 1) := by decide +kernel
theorem dX5_readHolder_63 : decode cX5_readHolder 63 = .ok (.aload_n 0, 1) := by decide +kernel
theorem dX5_readHolder_64 : decode cX5_readHolder 64 = .ok (.iconst 1, 1) := by decide +kernel
theorem dX5_readHolder_65 : decode cX5_readHolder 65 = .ok (.bipush 60, 2) := by decide +kernel
theorem dX5_readHolder_67 : decode cX5_readHolder 67 = .ok (.invokevirtual 150, 3) := by decide +kernel
theorem dX5_readHolder_70 : decode cX5_readHolder 70 = .ok (.invokestatic 169, 3) := by decide +kernel
theorem dX5_readHolder_73 : decode cX5_readHolder 73 = .ok (.aload_n 0, 1) := by decide +kernel
theorem dX5_readHolder_74 : decode cX5_readHolder 74 = .ok (.bipush 6, 2) := by decide +kernel
theorem dX5_readHolder_76 : decode cX5_readHolder 76 = .ok (.invokevirtual 173, 3) := by decide +kernel
theorem dX5_readHolder_79 : decode cX5_readHolder 79 = .ok (.aload_n 0, 1) := by decide +kernel
theorem dX5_readHolder_80 : decode cX5_readHolder 80 = .ok (.getfield 44, 3) := by decide +kernel
theorem dX5_readHolder_83 : decode cX5_readHolder 83 = .ok (.getfield 207, 3) := by decide +kernel
theorem dX5_readHolder_86 : decode cX5_readHolder 86 = .ok (.iload_n 1, 1) := by decide +kernel
theorem dX5_readHolder_87 : decode cX5_readHolder 87 = .ok (.aload_n 0, 1) := by decide +kernel
theorem dX5_readHolder_88 : decode cX5_readHolder 88 = .ok (.iconst 0, 1) := by decide +kernel
theorem dX5_readHolder_89 : decode cX5_readHolder 89 = .ok (.bipush 50, 2) := by decide +kernel
theorem dX5_readHolder_91 : decode cX5_readHolder 91 = .ok (.invokevirtual 150, 3) := by decide +kernel
theorem dX5_readHolder_94 : decode cX5_readHolder 94 = .ok (.invokestatic 169, 3) := by decide +kernel
theorem dX5_readHolder_97 : decode cX5_readHolder 97 = .ok (.aload_n 0, 1) := by decide +kernel
theorem dX5_readHolder_98 : decode cX5_readHolder 98 = .ok (.getfield 44, 3) := by decide +kernel
theorem dX5_readHolder_101 : decode cX5_readHolder 101 = .ok (.dup, 1) := by decide +kernel
theorem dX5_readHolder_102 : decode cX5_readHolder 102 = .ok (.getfield 198, 3) := by decide +kernel
theorem dX5_readHolder_105 : decode cX5_readHolder 105 = .ok (.iconst 1, 1) := by decide +kernel
theorem dX5_readHolder_106 : decode cX5_readHolder 106 = .ok (.iadd, 1) := by decide +kernel
theorem dX5_readHolder_107 : decode cX5_readHolder 107 = .ok (.putfield 198, 3) := by decide +kernel
theorem dX5_readHolder_110 : decode cX5_readHolder 110 = .ok (.return_, 1) := by decide +kernel
def fX5_readHolder (σ : zS) : Option zS := if (iG σ (rp σ.2.2.2.2 + 0) 2) < 6 then bnr (fX5_advance σ) fun σ1 => bnc (fX5_takeNewName σ1) fun v5 σ3 => wI σ3 (rp σ1.2.2.2.2 + 6) 6 (iG σ (rp σ.2.2.2.2 + 0) 2) v5 fun σ6 => bnr (fX5_takeWord 5 σ6) fun σ7 => bnc (fX5_takeNumber 1 60 σ7) fun v11 σ9 => wI σ9 (rp σ7.2.2.2.2 + 7) 6 (iG σ (rp σ.2.2.2.2 + 0) 2) v11 fun σ12 => bnr (fX5_takeWord 6 σ12) fun σ13 => bnc (fX5_takeNumber 0 50 σ13) fun v17 σ15 => wI σ15 (rp σ13.2.2.2.2 + 8) 6 (iG σ (rp σ.2.2.2.2 + 0) 2) v17 fun σ18 => bnd (iS σ18 (rp σ18.2.2.2.2 + 0) 2 ((iG σ18 (rp σ18.2.2.2.2 + 0) 2) + 1)) fun σ19 => some σ19 else bnr (fX5_fail 6 (iG σ 54 4) σ) fun σ20 => some σ20
theorem eX5_readHolder {sc : Nat × (Nat → Int32)} (σ : zS) (w : zS) (h : fX5_readHolder σ = some w) : zR (zY0 sc) 8 0 0 mX5_readHolder 0 [(0, .ref 54)] [] (zE σ) (none, zE w) := by
  unfold fX5_readHolder at h
  refine kR.aload_n dX5_readHolder_0 0 rfl ?_
  refine kR.getR (v := (rp σ.2.2.2.2 + 0)) dX5_readHolder_1 flX5_44 zcf5 zp54 (Or.inl ⟨_, rfl⟩) rfl ?_
  refine kR.getI dX5_readHolder_4 flX5_198 zcf6 (zq0 σ.2.2.2.2) (Or.inl rfl) ?_
  refine zR.bipush (v := 6) dX5_readHolder_7 (by decide) ?_
  refine kR.icmp_lt (tgt := 23) dX5_readHolder_9 (by decide) h (fun h => ?_) (fun h => ?_)
  · refine kR.aload_n dX5_readHolder_23 0 rfl ?_
    refine kR.getR (v := (rp σ.2.2.2.2 + 0)) dX5_readHolder_24 flX5_44 zcf5 zp54 (Or.inl ⟨_, rfl⟩) rfl ?_
    refine kR.getI dX5_readHolder_27 flX5_198 zcf6 (zq0 σ.2.2.2.2) (Or.inl rfl) ?_
    refine zR.istore_n (i := 1) (ls' := [(1, .int (iG σ (rp σ.2.2.2.2 + 0) 2)), (0, .ref 54)]) dX5_readHolder_30 rfl (by decide) rfl ?_
    refine kR.aload_n dX5_readHolder_31 1 rfl ?_
    obtain ⟨σ1, e2, h⟩ := bnr_some h
    refine kR.cVv [] dX5_readHolder_32 rfl (by decide) mwX5_114 zp54 (by decide) rfl rfl (Nat.le_of_ble_eq_true rfl) (lX5_advance σ _ e2) ?_
    refine kR.aload_n dX5_readHolder_35 1 rfl ?_
    refine kR.getR (v := (rp σ1.2.2.2.2 + 0)) dX5_readHolder_36 flX5_44 zcf5 zp54 (Or.inl ⟨_, rfl⟩) rfl ?_
    refine kR.getR (v := (rp σ1.2.2.2.2 + 6)) dX5_readHolder_39 flX5_201 zcf6 (zq0 σ1.2.2.2.2) (Or.inr ⟨_, rfl⟩) (zr0_10 _ σ1.2.2.2.2) ?_
    refine kR.iload_n dX5_readHolder_42 0 rfl ?_
    refine kR.aload_n dX5_readHolder_43 1 rfl ?_
    obtain ⟨v5, σ3, e4, h⟩ := bnc_some h
    refine kR.cVi [] dX5_readHolder_44 rfl (by decide) mwX5_166 zp54 (by decide) rfl rfl (Nat.le_of_ble_eq_true rfl) (lX5_takeNewName σ1 _ e4) ?_
    obtain ⟨σ6, e0, h⟩ := wIv (Nat.le_of_ble_eq_true rfl) h
    refine kR.cSv [.ref (rp σ1.2.2.2.2 + 6), .int (iG σ (rp σ.2.2.2.2 + 0) 2), .int v5] dX5_readHolder_47 rfl (by decide) (Or.inr mwX5_169) rfl (Nat.le_of_ble_eq_true rfl) (lX10_setAt (rp σ1.2.2.2.2 + 6) 6 (fun _ => (zq6 σ1.2.2.2.2)) (zl6 σ1.2.2.2.2) (Nat.le_of_ble_eq_true rfl) (iG σ (rp σ.2.2.2.2 + 0) 2) v5 σ3 _ e0) ?_
    refine kR.aload_n dX5_readHolder_50 1 rfl ?_
    refine zR.iconst (v := 5) dX5_readHolder_51 (by decide) ?_
    obtain ⟨σ7, e8, h⟩ := bnr_some h
    refine kR.cVv [.int 5] dX5_readHolder_52 rfl (by decide) mwX5_173 zp54 (by decide) rfl rfl (Nat.le_of_ble_eq_true rfl) (lX5_takeWord 5 σ6 _ e8) ?_
    refine kR.aload_n dX5_readHolder_55 1 rfl ?_
    refine kR.getR (v := (rp σ7.2.2.2.2 + 0)) dX5_readHolder_56 flX5_44 zcf5 zp54 (Or.inl ⟨_, rfl⟩) rfl ?_
    refine kR.getR (v := (rp σ7.2.2.2.2 + 7)) dX5_readHolder_59 flX5_204 zcf6 (zq0 σ7.2.2.2.2) (Or.inr ⟨_, rfl⟩) (zr0_11 _ σ7.2.2.2.2) ?_
    refine kR.iload_n dX5_readHolder_62 0 rfl ?_
    refine kR.aload_n dX5_readHolder_63 1 rfl ?_
    refine zR.iconst (v := 1) dX5_readHolder_64 (by decide) ?_
    refine zR.bipush (v := 60) dX5_readHolder_65 (by decide) ?_
    obtain ⟨v11, σ9, e10, h⟩ := bnc_some h
    refine kR.cVi [.int 1, .int 60] dX5_readHolder_67 rfl (by decide) mwX5_150 zp54 (by decide) rfl rfl (Nat.le_of_ble_eq_true rfl) (lX5_takeNumber 1 60 σ7 _ e10) ?_
    obtain ⟨σ12, e0, h⟩ := wIv (Nat.le_of_ble_eq_true rfl) h
    refine kR.cSv [.ref (rp σ7.2.2.2.2 + 7), .int (iG σ (rp σ.2.2.2.2 + 0) 2), .int v11] dX5_readHolder_70 rfl (by decide) (Or.inr mwX5_169) rfl (Nat.le_of_ble_eq_true rfl) (lX10_setAt (rp σ7.2.2.2.2 + 7) 6 (fun _ => (zq7 σ7.2.2.2.2)) (zl7 σ7.2.2.2.2) (Nat.le_of_ble_eq_true rfl) (iG σ (rp σ.2.2.2.2 + 0) 2) v11 σ9 _ e0) ?_
    refine kR.aload_n dX5_readHolder_73 1 rfl ?_
    refine zR.bipush (v := 6) dX5_readHolder_74 (by decide) ?_
    obtain ⟨σ13, e14, h⟩ := bnr_some h
    refine kR.cVv [.int 6] dX5_readHolder_76 rfl (by decide) mwX5_173 zp54 (by decide) rfl rfl (Nat.le_of_ble_eq_true rfl) (lX5_takeWord 6 σ12 _ e14) ?_
    refine kR.aload_n dX5_readHolder_79 1 rfl ?_
    refine kR.getR (v := (rp σ13.2.2.2.2 + 0)) dX5_readHolder_80 flX5_44 zcf5 zp54 (Or.inl ⟨_, rfl⟩) rfl ?_
    refine kR.getR (v := (rp σ13.2.2.2.2 + 8)) dX5_readHolder_83 flX5_207 zcf6 (zq0 σ13.2.2.2.2) (Or.inr ⟨_, rfl⟩) (zr0_12 _ σ13.2.2.2.2) ?_
    refine kR.iload_n dX5_readHolder_86 0 rfl ?_
    refine kR.aload_n dX5_readHolder_87 1 rfl ?_
    refine zR.iconst (v := 0) dX5_readHolder_88 (by decide) ?_
    refine zR.bipush (v := 50) dX5_readHolder_89 (by decide) ?_
    obtain ⟨v17, σ15, e16, h⟩ := bnc_some h
    refine kR.cVi [.int 0, .int 50] dX5_readHolder_91 rfl (by decide) mwX5_150 zp54 (by decide) rfl rfl (Nat.le_of_ble_eq_true rfl) (lX5_takeNumber 0 50 σ13 _ e16) ?_
    obtain ⟨σ18, e0, h⟩ := wIv (Nat.le_of_ble_eq_true rfl) h
    refine kR.cSv [.ref (rp σ13.2.2.2.2 + 8), .int (iG σ (rp σ.2.2.2.2 + 0) 2), .int v17] dX5_readHolder_94 rfl (by decide) (Or.inr mwX5_169) rfl (Nat.le_of_ble_eq_true rfl) (lX10_setAt (rp σ13.2.2.2.2 + 8) 6 (fun _ => (zq8 σ13.2.2.2.2)) (zl8 σ13.2.2.2.2) (Nat.le_of_ble_eq_true rfl) (iG σ (rp σ.2.2.2.2 + 0) 2) v17 σ15 _ e0) ?_
    refine kR.aload_n dX5_readHolder_97 1 rfl ?_
    refine kR.getR (v := (rp σ18.2.2.2.2 + 0)) dX5_readHolder_98 flX5_44 zcf5 zp54 (Or.inl ⟨_, rfl⟩) rfl ?_
    refine zR.dup dX5_readHolder_101 rfl ?_
    refine kR.getI dX5_readHolder_102 flX5_198 zcf6 (zq0 σ18.2.2.2.2) (Or.inl rfl) ?_
    refine zR.iconst (v := 1) dX5_readHolder_105 (by decide) ?_
    refine zR.iadd dX5_readHolder_106 ?_
    refine kR.putI dX5_readHolder_107 fpX5_198 zcf6 (zq0 σ18.2.2.2.2) rfl h (fun σ19 h => ?_)
    exact kR.vret dX5_readHolder_110 h
  · refine kR.aload_n dX5_readHolder_12 0 rfl ?_
    refine zR.bipush (v := 6) dX5_readHolder_13 (by decide) ?_
    refine kR.aload_n dX5_readHolder_15 0 rfl ?_
    refine kR.getI dX5_readHolder_16 flX5_19 zcf5 zp54 (Or.inl rfl) ?_
    obtain ⟨σ20, e21, h⟩ := bnr_some h
    refine kR.cVv [.int 6, .int (iG σ 54 4)] dX5_readHolder_19 rfl (by decide) mwX5_73 zp54 (by decide) rfl rfl (Nat.le_of_ble_eq_true rfl) (lX5_fail 6 (iG σ 54 4) σ _ e21) ?_
    exact kR.vret dX5_readHolder_22 h
theorem lX5_readHolder {sc : Nat × (Nat → Int32)} (σ : zS) (w : zS) (h : fX5_readHolder σ = some w) : zC (zY0 sc) 8 0 0 mX5_readHolder [.ref 54] (zE σ) (none, zE w) := zC.of (by decide +kernel) (Nat.le_of_ble_eq_true rfl) rfl (eX5_readHolder σ w h)
theorem dX5_takeKnownName_0 : decode cX5_takeKnownName 0 = .ok (.aload_n 0, 1) := by decide +kernel
theorem dX5_takeKnownName_1 : decode cX5_takeKnownName 1 = .ok (.invokevirtual 117, 3) := by decide +kernel
theorem dX5_takeKnownName_4 : decode cX5_takeKnownName 4 = .ok (.ifCond .ne 15, 3) := by decide +kernel
theorem dX5_takeKnownName_7 : decode cX5_takeKnownName 7 = .ok (.aload_n 0, 1) := by decide +kernel
theorem dX5_takeKnownName_8 : decode cX5_takeKnownName 8 = .ok (.iconst 1, 1) := by decide +kernel
theorem dX5_takeKnownName_9 : decode cX5_takeKnownName 9 = .ok (.aload_n 0, 1) := by decide +kernel
theorem dX5_takeKnownName_10 : decode cX5_takeKnownName 10 = .ok (.getfield 19, 3) := by decide +kernel
theorem dX5_takeKnownName_13 : decode cX5_takeKnownName 13 = .ok (.invokevirtual 73, 3) := by decide +kernel
theorem dX5_takeKnownName_16 : decode cX5_takeKnownName 16 = .ok (.goto 17, 3) := by decide +kernel
theorem dX5_takeKnownName_19 : decode cX5_takeKnownName 19 = .ok (.iload_n 1, 1) := by decide +kernel
theorem dX5_takeKnownName_20 : decode cX5_takeKnownName 20 = .ok (.iconst (-1), 1) := by decide +kernel
theorem dX5_takeKnownName_21 : decode cX5_takeKnownName 21 = .ok (.if_icmp .ne 12, 3) := by decide +kernel
theorem dX5_takeKnownName_24 : decode cX5_takeKnownName 24 = .ok (.aload_n 0, 1) := by decide +kernel
theorem dX5_takeKnownName_25 : decode cX5_takeKnownName 25 = .ok (.iconst 3, 1) := by decide +kernel
theorem dX5_takeKnownName_26 : decode cX5_takeKnownName 26 = .ok (.aload_n 0, 1) := by decide +kernel
theorem dX5_takeKnownName_27 : decode cX5_takeKnownName 27 = .ok (.getfield 19, 3) := by decide +kernel
theorem dX5_takeKnownName_30 : decode cX5_takeKnownName 30 = .ok (.invokevirtual 73, 3) := by decide +kernel
theorem dX5_takeKnownName_33 : decode cX5_takeKnownName 33 = .ok (.aload_n 0, 1) := by decide +kernel
theorem dX5_takeKnownName_34 : decode cX5_takeKnownName 34 = .ok (.invokevirtual 114, 3) := by decide +kernel
theorem dX5_takeKnownName_37 : decode cX5_takeKnownName 37 = .ok (.return_, 1) := by decide +kernel
def fX5_takeKnownName_33 (σ : zS) : Option zS := bnr (fX5_advance σ) fun σ1 => some σ1
theorem kX5_takeKnownName_33 {sc : Nat × (Nat → Int32)} (σ : zS) (w : zS) (h : fX5_takeKnownName_33 σ = some w) : zR (zY0 sc) 7 0 0 mX5_takeKnownName 33 [(0, .ref 54)] [] (zE σ) (none, zE w) := by
  unfold fX5_takeKnownName_33 at h
  refine kR.aload_n dX5_takeKnownName_33 0 rfl ?_
  obtain ⟨σ1, e2, h⟩ := bnr_some h
  refine kR.cVv [] dX5_takeKnownName_34 rfl (by decide) mwX5_114 zp54 (by decide) rfl rfl (Nat.le_of_ble_eq_true rfl) (lX5_advance σ _ e2) ?_
  exact kR.vret dX5_takeKnownName_37 h
def fX5_takeKnownName (p1 : Int32) (σ : zS) : Option zS := if (fX5_isName σ) = 0 then bnr (fX5_fail 1 (iG σ 54 4) σ) fun σ5 => fX5_takeKnownName_33 σ5 else if p1 = ((-1)) then bnr (fX5_fail 3 (iG σ 54 4) σ) fun σ3 => fX5_takeKnownName_33 σ3 else fX5_takeKnownName_33 σ
theorem eX5_takeKnownName {sc : Nat × (Nat → Int32)} (p1 : Int32) (σ : zS) (w : zS) (h : fX5_takeKnownName p1 σ = some w) : zR (zY0 sc) 7 0 0 mX5_takeKnownName 0 [(0, .ref 54), (1, .int p1)] [] (zE σ) (none, zE w) := by
  unfold fX5_takeKnownName at h
  refine kR.aload_n dX5_takeKnownName_0 0 rfl ?_
  refine kR.cVi [] dX5_takeKnownName_1 rfl (by decide) mwX5_117 zp54 (by decide) rfl rfl (Nat.le_of_ble_eq_true rfl) (lX5_isName σ) ?_
  refine kR.if_ne (tgt := 19) dX5_takeKnownName_4 (by decide) h (fun h => ?_) (fun h => ?_)
  · refine kR.iload_n dX5_takeKnownName_19 1 rfl ?_
    refine zR.iconst (v := (-1)) dX5_takeKnownName_20 (by decide) ?_
    refine kR.icmp_ne (tgt := 33) dX5_takeKnownName_21 (by decide) h (fun h => ?_) (fun h => ?_)
    · refine zR.sub [0] rfl ?_
      exact kX5_takeKnownName_33 _ _ h
    · refine kR.aload_n dX5_takeKnownName_24 0 rfl ?_
      refine zR.iconst (v := 3) dX5_takeKnownName_25 (by decide) ?_
      refine kR.aload_n dX5_takeKnownName_26 0 rfl ?_
      refine kR.getI dX5_takeKnownName_27 flX5_19 zcf5 zp54 (Or.inl rfl) ?_
      obtain ⟨σ3, e4, h⟩ := bnr_some h
      refine kR.cVv [.int 3, .int (iG σ 54 4)] dX5_takeKnownName_30 rfl (by decide) mwX5_73 zp54 (by decide) rfl rfl (Nat.le_of_ble_eq_true rfl) (lX5_fail 3 (iG σ 54 4) σ _ e4) ?_
      refine zR.sub [0] rfl ?_
      exact kX5_takeKnownName_33 _ _ h
  · refine kR.aload_n dX5_takeKnownName_7 0 rfl ?_
    refine zR.iconst (v := 1) dX5_takeKnownName_8 (by decide) ?_
    refine kR.aload_n dX5_takeKnownName_9 0 rfl ?_
    refine kR.getI dX5_takeKnownName_10 flX5_19 zcf5 zp54 (Or.inl rfl) ?_
    obtain ⟨σ5, e6, h⟩ := bnr_some h
    refine kR.cVv [.int 1, .int (iG σ 54 4)] dX5_takeKnownName_13 rfl (by decide) mwX5_73 zp54 (by decide) rfl rfl (Nat.le_of_ble_eq_true rfl) (lX5_fail 1 (iG σ 54 4) σ _ e6) ?_
    refine zR.goto (tgt := 33) dX5_takeKnownName_16 (by decide) ?_
    refine zR.sub [0] rfl ?_
    exact kX5_takeKnownName_33 _ _ h
theorem lX5_takeKnownName {sc : Nat × (Nat → Int32)} (p1 : Int32) (σ : zS) (w : zS) (h : fX5_takeKnownName p1 σ = some w) : zC (zY0 sc) 7 0 0 mX5_takeKnownName [.ref 54, .int p1] (zE σ) (none, zE w) := zC.of (by decide +kernel) (Nat.le_of_ble_eq_true rfl) rfl (eX5_takeKnownName p1 σ w h)
theorem dX5_takeHolder_0 : decode cX5_takeHolder 0 = .ok (.aload_n 0, 1) := by decide +kernel
theorem dX5_takeHolder_1 : decode cX5_takeHolder 1 = .ok (.invokevirtual 117, 3) := by decide +kernel
theorem dX5_takeHolder_4 : decode cX5_takeHolder 4 = .ok (.ifCond .eq 17, 3) := by decide +kernel
theorem dX5_takeHolder_7 : decode cX5_takeHolder 7 = .ok (.aload_n 0, 1) := by decide +kernel
theorem dX5_takeHolder_8 : decode cX5_takeHolder 8 = .ok (.getfield 44, 3) := by decide +kernel
theorem dX5_takeHolder_11 : decode cX5_takeHolder 11 = .ok (.aload_n 0, 1) := by decide +kernel
theorem dX5_takeHolder_12 : decode cX5_takeHolder 12 = .ok (.getfield 28, 3) := by decide +kernel
theorem dX5_takeHolder_15 : decode cX5_takeHolder 15 = .ok (.invokevirtual 123, 3) := by decide +kernel
theorem dX5_takeHolder_18 : decode cX5_takeHolder 18 = .ok (.goto 4, 3) := by decide +kernel
theorem dX5_takeHolder_21 : decode cX5_takeHolder 21 = .ok (.iconst (-1), 1) := by decide +kernel
theorem dX5_takeHolder_22 : decode cX5_takeHolder 22 = .ok (.istore_n 1, 1) := by decide +kernel
theorem dX5_takeHolder_23 : decode cX5_takeHolder 23 = .ok (.aload_n 0, 1) := by decide +kernel
theorem dX5_takeHolder_24 : decode cX5_takeHolder 24 = .ok (.iload_n 1, 1) := by decide +kernel
theorem dX5_takeHolder_25 : decode cX5_takeHolder 25 = .ok (.invokevirtual 126, 3) := by decide +kernel
theorem dX5_takeHolder_28 : decode cX5_takeHolder 28 = .ok (.iload_n 1, 1) := by decide +kernel
theorem dX5_takeHolder_29 : decode cX5_takeHolder 29 = .ok (.ireturn, 1) := by decide +kernel
def fX5_takeHolder_22 (s0 : Int32) (σ : zS) : Option (Int32 × zS) := bnr (fX5_takeKnownName s0 σ) fun σ1 => some (s0, σ1)
theorem kX5_takeHolder_22 {sc : Nat × (Nat → Int32)} (s0 : Int32) (σ : zS) (w : Int32 × zS) (h : fX5_takeHolder_22 s0 σ = some w) : zR (zY0 sc) 8 0 0 mX5_takeHolder 22 [(0, .ref 54)] [.int s0] (zE σ) (some (.int w.1), zE w.2) := by
  unfold fX5_takeHolder_22 at h
  refine zR.istore_n (i := 1) (ls' := [(1, .int s0), (0, .ref 54)]) dX5_takeHolder_22 rfl (by decide) rfl ?_
  refine kR.aload_n dX5_takeHolder_23 1 rfl ?_
  refine kR.iload_n dX5_takeHolder_24 0 rfl ?_
  obtain ⟨σ1, e2, h⟩ := bnr_some h
  refine kR.cVv [.int s0] dX5_takeHolder_25 rfl (by decide) mwX5_126 zp54 (by decide) rfl rfl (Nat.le_of_ble_eq_true rfl) (lX5_takeKnownName s0 σ _ e2) ?_
  refine kR.iload_n dX5_takeHolder_28 0 rfl ?_
  exact kR.iretW dX5_takeHolder_29 (nzI rfl _) h
def fX5_takeHolder (σ : zS) : Option (Int32 × zS) := if (fX5_isName σ) = 0 then fX5_takeHolder_22 ((-1)) σ else bnr (fX6_holderNamed σ.2.2.2.2 σ (iG σ 54 7)) fun v3 => fX5_takeHolder_22 v3 σ
theorem eX5_takeHolder {sc : Nat × (Nat → Int32)} (σ : zS) (w : Int32 × zS) (h : fX5_takeHolder σ = some w) : zR (zY0 sc) 8 0 0 mX5_takeHolder 0 [(0, .ref 54)] [] (zE σ) (some (.int w.1), zE w.2) := by
  unfold fX5_takeHolder at h
  refine kR.aload_n dX5_takeHolder_0 0 rfl ?_
  refine kR.cVi [] dX5_takeHolder_1 rfl (by decide) mwX5_117 zp54 (by decide) rfl rfl (Nat.le_of_ble_eq_true rfl) (lX5_isName σ) ?_
  refine kR.if_eq (tgt := 21) dX5_takeHolder_4 (by decide) h (fun h => ?_) (fun h => ?_)
  · refine zR.iconst (v := (-1)) dX5_takeHolder_21 (by decide) ?_
    exact kX5_takeHolder_22 _ _ _ h
  · refine kR.aload_n dX5_takeHolder_7 0 rfl ?_
    refine kR.getR (v := (rp σ.2.2.2.2 + 0)) dX5_takeHolder_8 flX5_44 zcf5 zp54 (Or.inl ⟨_, rfl⟩) rfl ?_
    refine kR.aload_n dX5_takeHolder_11 0 rfl ?_
    refine kR.getI dX5_takeHolder_12 flX5_28 zcf5 zp54 (Or.inl rfl) ?_
    obtain ⟨v3, e4, h⟩ := bnr_some h
    refine kR.cVi [.int (iG σ 54 7)] dX5_takeHolder_15 rfl (by decide) mwX5_123 (zq0 σ.2.2.2.2) (by decide) rfl rfl (Nat.le_of_ble_eq_true rfl) (lX6_holderNamed σ.2.2.2.2 σ (iG σ 54 7) _ e4) ?_
    refine zR.goto (tgt := 22) dX5_takeHolder_18 (by decide) ?_
    exact kX5_takeHolder_22 _ _ _ h
theorem lX5_takeHolder {sc : Nat × (Nat → Int32)} (σ : zS) (w : Int32 × zS) (h : fX5_takeHolder σ = some w) : zC (zY0 sc) 8 0 0 mX5_takeHolder [.ref 54] (zE σ) (some (.int w.1), zE w.2) := zC.of (by decide +kernel) (Nat.le_of_ble_eq_true rfl) ⟨_, rfl⟩ (eX5_takeHolder σ w h)
theorem dX5_takeTunnel_0 : decode cX5_takeTunnel 0 = .ok (.aload_n 0, 1) := by decide +kernel
theorem dX5_takeTunnel_1 : decode cX5_takeTunnel 1 = .ok (.invokevirtual 117, 3) := by decide +kernel
theorem dX5_takeTunnel_4 : decode cX5_takeTunnel 4 = .ok (.ifCond .eq 17, 3) := by decide +kernel
theorem dX5_takeTunnel_7 : decode cX5_takeTunnel 7 = .ok (.aload_n 0, 1) := by decide +kernel
theorem dX5_takeTunnel_8 : decode cX5_takeTunnel 8 = .ok (.getfield 44, 3) := by decide +kernel
theorem dX5_takeTunnel_11 : decode cX5_takeTunnel 11 = .ok (.aload_n 0, 1) := by decide +kernel
theorem dX5_takeTunnel_12 : decode cX5_takeTunnel 12 = .ok (.getfield 28, 3) := by decide +kernel
theorem dX5_takeTunnel_15 : decode cX5_takeTunnel 15 = .ok (.invokevirtual 120, 3) := by decide +kernel
theorem dX5_takeTunnel_18 : decode cX5_takeTunnel 18 = .ok (.goto 4, 3) := by decide +kernel
theorem dX5_takeTunnel_21 : decode cX5_takeTunnel 21 = .ok (.iconst (-1), 1) := by decide +kernel
theorem dX5_takeTunnel_22 : decode cX5_takeTunnel 22 = .ok (.istore_n 1, 1) := by decide +kernel
theorem dX5_takeTunnel_23 : decode cX5_takeTunnel 23 = .ok (.aload_n 0, 1) := by decide +kernel
theorem dX5_takeTunnel_24 : decode cX5_takeTunnel 24 = .ok (.iload_n 1, 1) := by decide +kernel
theorem dX5_takeTunnel_25 : decode cX5_takeTunnel 25 = .ok (.invokevirtual 126, 3) := by decide +kernel
theorem dX5_takeTunnel_28 : decode cX5_takeTunnel 28 = .ok (.iload_n 1, 1) := by decide +kernel
theorem dX5_takeTunnel_29 : decode cX5_takeTunnel 29 = .ok (.ireturn, 1) := by decide +kernel
def fX5_takeTunnel_22 (s0 : Int32) (σ : zS) : Option (Int32 × zS) := bnr (fX5_takeKnownName s0 σ) fun σ1 => some (s0, σ1)
theorem kX5_takeTunnel_22 {sc : Nat × (Nat → Int32)} (s0 : Int32) (σ : zS) (w : Int32 × zS) (h : fX5_takeTunnel_22 s0 σ = some w) : zR (zY0 sc) 8 0 0 mX5_takeTunnel 22 [(0, .ref 54)] [.int s0] (zE σ) (some (.int w.1), zE w.2) := by
  unfold fX5_takeTunnel_22 at h
  refine zR.istore_n (i := 1) (ls' := [(1, .int s0), (0, .ref 54)]) dX5_takeTunnel_22 rfl (by decide) rfl ?_
  refine kR.aload_n dX5_takeTunnel_23 1 rfl ?_
  refine kR.iload_n dX5_takeTunnel_24 0 rfl ?_
  obtain ⟨σ1, e2, h⟩ := bnr_some h
  refine kR.cVv [.int s0] dX5_takeTunnel_25 rfl (by decide) mwX5_126 zp54 (by decide) rfl rfl (Nat.le_of_ble_eq_true rfl) (lX5_takeKnownName s0 σ _ e2) ?_
  refine kR.iload_n dX5_takeTunnel_28 0 rfl ?_
  exact kR.iretW dX5_takeTunnel_29 (nzI rfl _) h
def fX5_takeTunnel (σ : zS) : Option (Int32 × zS) := if (fX5_isName σ) = 0 then fX5_takeTunnel_22 ((-1)) σ else bnr (fX6_tunnelNamed σ.2.2.2.2 σ (iG σ 54 7)) fun v3 => fX5_takeTunnel_22 v3 σ
theorem eX5_takeTunnel {sc : Nat × (Nat → Int32)} (σ : zS) (w : Int32 × zS) (h : fX5_takeTunnel σ = some w) : zR (zY0 sc) 8 0 0 mX5_takeTunnel 0 [(0, .ref 54)] [] (zE σ) (some (.int w.1), zE w.2) := by
  unfold fX5_takeTunnel at h
  refine kR.aload_n dX5_takeTunnel_0 0 rfl ?_
  refine kR.cVi [] dX5_takeTunnel_1 rfl (by decide) mwX5_117 zp54 (by decide) rfl rfl (Nat.le_of_ble_eq_true rfl) (lX5_isName σ) ?_
  refine kR.if_eq (tgt := 21) dX5_takeTunnel_4 (by decide) h (fun h => ?_) (fun h => ?_)
  · refine zR.iconst (v := (-1)) dX5_takeTunnel_21 (by decide) ?_
    exact kX5_takeTunnel_22 _ _ _ h
  · refine kR.aload_n dX5_takeTunnel_7 0 rfl ?_
    refine kR.getR (v := (rp σ.2.2.2.2 + 0)) dX5_takeTunnel_8 flX5_44 zcf5 zp54 (Or.inl ⟨_, rfl⟩) rfl ?_
    refine kR.aload_n dX5_takeTunnel_11 0 rfl ?_
    refine kR.getI dX5_takeTunnel_12 flX5_28 zcf5 zp54 (Or.inl rfl) ?_
    obtain ⟨v3, e4, h⟩ := bnr_some h
    refine kR.cVi [.int (iG σ 54 7)] dX5_takeTunnel_15 rfl (by decide) mwX5_120 (zq0 σ.2.2.2.2) (by decide) rfl rfl (Nat.le_of_ble_eq_true rfl) (lX6_tunnelNamed σ.2.2.2.2 σ (iG σ 54 7) _ e4) ?_
    refine zR.goto (tgt := 22) dX5_takeTunnel_18 (by decide) ?_
    exact kX5_takeTunnel_22 _ _ _ h
theorem lX5_takeTunnel {sc : Nat × (Nat → Int32)} (σ : zS) (w : Int32 × zS) (h : fX5_takeTunnel σ = some w) : zC (zY0 sc) 8 0 0 mX5_takeTunnel [.ref 54] (zE σ) (some (.int w.1), zE w.2) := zC.of (by decide +kernel) (Nat.le_of_ble_eq_true rfl) ⟨_, rfl⟩ (eX5_takeTunnel σ w h)
theorem dX6_hasHolder_0 : decode cX6_hasHolder 0 = .ok (.iload_n 1, 1) := by decide +kernel
theorem dX6_hasHolder_1 : decode cX6_hasHolder 1 = .ok (.ifCond .lt 15, 3) := by decide +kernel
theorem dX6_hasHolder_4 : decode cX6_hasHolder 4 = .ok (.iload_n 1, 1) := by decide +kernel
theorem dX6_hasHolder_5 : decode cX6_hasHolder 5 = .ok (.aload_n 0, 1) := by decide +kernel
theorem dX6_hasHolder_6 : decode cX6_hasHolder 6 = .ok (.getfield 18, 3) := by decide +kernel
theorem dX6_hasHolder_9 : decode cX6_hasHolder 9 = .ok (.if_icmp .ge 7, 3) := by decide +kernel
theorem dX6_hasHolder_12 : decode cX6_hasHolder 12 = .ok (.iconst 1, 1) := by decide +kernel
theorem dX6_hasHolder_13 : decode cX6_hasHolder 13 = .ok (.goto 4, 3) := by decide +kernel
theorem dX6_hasHolder_16 : decode cX6_hasHolder 16 = .ok (.iconst 0, 1) := by decide +kernel
theorem dX6_hasHolder_17 : decode cX6_hasHolder 17 = .ok (.ireturn, 1) := by decide +kernel
def fX6_hasHolder (b0 : Bool) (σ : zS) (p1 : Int32) : Int32 := if p1 < 0 then 0 else if (iG σ (rp b0 + 0) 2) ≤ p1 then 0 else 1
theorem eX6_hasHolder {sc : Nat × (Nat → Int32)} (b0 : Bool) (σ : zS) (p1 : Int32) (w : Int32) (h : fX6_hasHolder b0 σ p1 = w) : zR (zY0 sc) 1 0 0 mX6_hasHolder 0 [(0, .ref (rp b0 + 0)), (1, .int p1)] [] (zE σ) (some (.int w), zE σ) := by
  unfold fX6_hasHolder at h
  refine kR.iload_n dX6_hasHolder_0 1 rfl ?_
  refine kR.if_lt (tgt := 16) dX6_hasHolder_1 (by decide) h (fun h => ?_) (fun h => ?_)
  · refine zR.iconst (v := 0) dX6_hasHolder_16 (by decide) ?_
    exact kR.iret dX6_hasHolder_17 (nzZ rfl (Or.inl rfl)) h
  · refine kR.iload_n dX6_hasHolder_4 1 rfl ?_
    refine kR.aload_n dX6_hasHolder_5 0 rfl ?_
    refine kR.getI dX6_hasHolder_6 flX6_18 zcf6 (zq0 b0) (Or.inl rfl) ?_
    refine kR.icmp_ge (tgt := 16) dX6_hasHolder_9 (by decide) h (fun h => ?_) (fun h => ?_)
    · refine zR.iconst (v := 0) dX6_hasHolder_16 (by decide) ?_
      exact kR.iret dX6_hasHolder_17 (nzZ rfl (Or.inl rfl)) h
    · refine zR.iconst (v := 1) dX6_hasHolder_12 (by decide) ?_
      refine zR.goto (tgt := 17) dX6_hasHolder_13 (by decide) ?_
      exact kR.iret dX6_hasHolder_17 (nzZ rfl (Or.inr rfl)) h
theorem lX6_hasHolder {sc : Nat × (Nat → Int32)} (b0 : Bool) (σ : zS) (p1 : Int32) : zC (zY0 sc) 1 0 0 mX6_hasHolder [.ref (rp b0 + 0), .int p1] (zE σ) (some (.int (fX6_hasHolder b0 σ p1)), zE σ) := zC.of (by decide +kernel) (Nat.le_of_ble_eq_true rfl) ⟨_, rfl⟩ (eX6_hasHolder b0 σ p1 _ rfl)
theorem dX6_hasTunnel_0 : decode cX6_hasTunnel 0 = .ok (.iload_n 1, 1) := by decide +kernel
theorem dX6_hasTunnel_1 : decode cX6_hasTunnel 1 = .ok (.ifCond .lt 15, 3) := by decide +kernel
theorem dX6_hasTunnel_4 : decode cX6_hasTunnel 4 = .ok (.iload_n 1, 1) := by decide +kernel
theorem dX6_hasTunnel_5 : decode cX6_hasTunnel 5 = .ok (.aload_n 0, 1) := by decide +kernel
theorem dX6_hasTunnel_6 : decode cX6_hasTunnel 6 = .ok (.getfield 15, 3) := by decide +kernel
theorem dX6_hasTunnel_9 : decode cX6_hasTunnel 9 = .ok (.if_icmp .ge 7, 3) := by decide +kernel
theorem dX6_hasTunnel_12 : decode cX6_hasTunnel 12 = .ok (.iconst 1, 1) := by decide +kernel
theorem dX6_hasTunnel_13 : decode cX6_hasTunnel 13 = .ok (.goto 4, 3) := by decide +kernel
theorem dX6_hasTunnel_16 : decode cX6_hasTunnel 16 = .ok (.iconst 0, 1) := by decide +kernel
theorem dX6_hasTunnel_17 : decode cX6_hasTunnel 17 = .ok (.ireturn, 1) := by decide +kernel
def fX6_hasTunnel (b0 : Bool) (σ : zS) (p1 : Int32) : Int32 := if p1 < 0 then 0 else if (iG σ (rp b0 + 0) 1) ≤ p1 then 0 else 1
theorem eX6_hasTunnel {sc : Nat × (Nat → Int32)} (b0 : Bool) (σ : zS) (p1 : Int32) (w : Int32) (h : fX6_hasTunnel b0 σ p1 = w) : zR (zY0 sc) 1 0 0 mX6_hasTunnel 0 [(0, .ref (rp b0 + 0)), (1, .int p1)] [] (zE σ) (some (.int w), zE σ) := by
  unfold fX6_hasTunnel at h
  refine kR.iload_n dX6_hasTunnel_0 1 rfl ?_
  refine kR.if_lt (tgt := 16) dX6_hasTunnel_1 (by decide) h (fun h => ?_) (fun h => ?_)
  · refine zR.iconst (v := 0) dX6_hasTunnel_16 (by decide) ?_
    exact kR.iret dX6_hasTunnel_17 (nzZ rfl (Or.inl rfl)) h
  · refine kR.iload_n dX6_hasTunnel_4 1 rfl ?_
    refine kR.aload_n dX6_hasTunnel_5 0 rfl ?_
    refine kR.getI dX6_hasTunnel_6 flX6_15 zcf6 (zq0 b0) (Or.inl rfl) ?_
    refine kR.icmp_ge (tgt := 16) dX6_hasTunnel_9 (by decide) h (fun h => ?_) (fun h => ?_)
    · refine zR.iconst (v := 0) dX6_hasTunnel_16 (by decide) ?_
      exact kR.iret dX6_hasTunnel_17 (nzZ rfl (Or.inl rfl)) h
    · refine zR.iconst (v := 1) dX6_hasTunnel_12 (by decide) ?_
      refine zR.goto (tgt := 17) dX6_hasTunnel_13 (by decide) ?_
      exact kR.iret dX6_hasTunnel_17 (nzZ rfl (Or.inr rfl)) h
theorem lX6_hasTunnel {sc : Nat × (Nat → Int32)} (b0 : Bool) (σ : zS) (p1 : Int32) : zC (zY0 sc) 1 0 0 mX6_hasTunnel [.ref (rp b0 + 0), .int p1] (zE σ) (some (.int (fX6_hasTunnel b0 σ p1)), zE σ) := zC.of (by decide +kernel) (Nat.le_of_ble_eq_true rfl) ⟨_, rfl⟩ (eX6_hasTunnel b0 σ p1 _ rfl)
theorem dX6_hasBoth_0 : decode cX6_hasBoth 0 = .ok (.aload_n 0, 1) := by decide +kernel
theorem dX6_hasBoth_1 : decode cX6_hasBoth 1 = .ok (.iload_n 1, 1) := by decide +kernel
theorem dX6_hasBoth_2 : decode cX6_hasBoth 2 = .ok (.invokevirtual 74, 3) := by decide +kernel
theorem dX6_hasBoth_5 : decode cX6_hasBoth 5 = .ok (.ifCond .eq 15, 3) := by decide +kernel
theorem dX6_hasBoth_8 : decode cX6_hasBoth 8 = .ok (.aload_n 0, 1) := by decide +kernel
theorem dX6_hasBoth_9 : decode cX6_hasBoth 9 = .ok (.iload_n 2, 1) := by decide +kernel
theorem dX6_hasBoth_10 : decode cX6_hasBoth 10 = .ok (.invokevirtual 78, 3) := by decide +kernel
theorem dX6_hasBoth_13 : decode cX6_hasBoth 13 = .ok (.ifCond .eq 7, 3) := by decide +kernel
theorem dX6_hasBoth_16 : decode cX6_hasBoth 16 = .ok (.iconst 1, 1) := by decide +kernel
theorem dX6_hasBoth_17 : decode cX6_hasBoth 17 = .ok (.goto 4, 3) := by decide +kernel
theorem dX6_hasBoth_20 : decode cX6_hasBoth 20 = .ok (.iconst 0, 1) := by decide +kernel
theorem dX6_hasBoth_21 : decode cX6_hasBoth 21 = .ok (.ireturn, 1) := by decide +kernel
def fX6_hasBoth (b0 : Bool) (σ : zS) (p1 : Int32) (p2 : Int32) : Int32 := if (fX6_hasHolder b0 σ p1) = 0 then 0 else if (fX6_hasTunnel b0 σ p2) = 0 then 0 else 1
theorem eX6_hasBoth {sc : Nat × (Nat → Int32)} (b0 : Bool) (σ : zS) (p1 : Int32) (p2 : Int32) (w : Int32) (h : fX6_hasBoth b0 σ p1 p2 = w) : zR (zY0 sc) 2 0 0 mX6_hasBoth 0 [(0, .ref (rp b0 + 0)), (1, .int p1), (2, .int p2)] [] (zE σ) (some (.int w), zE σ) := by
  unfold fX6_hasBoth at h
  refine kR.aload_n dX6_hasBoth_0 0 rfl ?_
  refine kR.iload_n dX6_hasBoth_1 1 rfl ?_
  refine kR.cVi [.int p1] dX6_hasBoth_2 rfl (by decide) mwX6_74 (zq0 b0) (by decide) rfl rfl (Nat.le_of_ble_eq_true rfl) (lX6_hasHolder b0 σ p1) ?_
  refine kR.if_eq (tgt := 20) dX6_hasBoth_5 (by decide) h (fun h => ?_) (fun h => ?_)
  · refine zR.iconst (v := 0) dX6_hasBoth_20 (by decide) ?_
    exact kR.iret dX6_hasBoth_21 (nzZ rfl (Or.inl rfl)) h
  · refine kR.aload_n dX6_hasBoth_8 0 rfl ?_
    refine kR.iload_n dX6_hasBoth_9 2 rfl ?_
    refine kR.cVi [.int p2] dX6_hasBoth_10 rfl (by decide) mwX6_78 (zq0 b0) (by decide) rfl rfl (Nat.le_of_ble_eq_true rfl) (lX6_hasTunnel b0 σ p2) ?_
    refine kR.if_eq (tgt := 20) dX6_hasBoth_13 (by decide) h (fun h => ?_) (fun h => ?_)
    · refine zR.iconst (v := 0) dX6_hasBoth_20 (by decide) ?_
      exact kR.iret dX6_hasBoth_21 (nzZ rfl (Or.inl rfl)) h
    · refine zR.iconst (v := 1) dX6_hasBoth_16 (by decide) ?_
      refine zR.goto (tgt := 21) dX6_hasBoth_17 (by decide) ?_
      exact kR.iret dX6_hasBoth_21 (nzZ rfl (Or.inr rfl)) h
theorem lX6_hasBoth {sc : Nat × (Nat → Int32)} (b0 : Bool) (σ : zS) (p1 : Int32) (p2 : Int32) : zC (zY0 sc) 2 0 0 mX6_hasBoth [.ref (rp b0 + 0), .int p1, .int p2] (zE σ) (some (.int (fX6_hasBoth b0 σ p1 p2)), zE σ) := zC.of (by decide +kernel) (Nat.le_of_ble_eq_true rfl) ⟨_, rfl⟩ (eX6_hasBoth b0 σ p1 p2 _ rfl)
theorem dX5_readThinks_0 : decode cX5_readThinks 0 = .ok (.aload_n 0, 1) := by decide +kernel
theorem dX5_readThinks_1 : decode cX5_readThinks 1 = .ok (.invokevirtual 114, 3) := by decide +kernel
theorem dX5_readThinks_4 : decode cX5_readThinks 4 = .ok (.aload_n 0, 1) := by decide +kernel
theorem dX5_readThinks_5 : decode cX5_readThinks 5 = .ok (.invokevirtual 210, 3) := by decide +kernel
theorem dX5_readThinks_8 : decode cX5_readThinks 8 = .ok (.istore_n 1, 1) := by decide +kernel
theorem dX5_readThinks_9 : decode cX5_readThinks 9 = .ok (.aload_n 0, 1) := by decide +kernel
theorem dX5_readThinks_10 : decode cX5_readThinks 10 = .ok (.invokevirtual 213, 3) := by decide +kernel
theorem dX5_readThinks_13 : decode cX5_readThinks 13 = .ok (.istore_n 2, 1) := by decide +kernel
theorem dX5_readThinks_14 : decode cX5_readThinks 14 = .ok (.aload_n 0, 1) := by decide +kernel
theorem dX5_readThinks_15 : decode cX5_readThinks 15 = .ok (.iconst 1, 1) := by decide +kernel
theorem dX5_readThinks_16 : decode cX5_readThinks 16 = .ok (.bipush 60, 2) := by decide +kernel
theorem dX5_readThinks_18 : decode cX5_readThinks 18 = .ok (.invokevirtual 150, 3) := by decide +kernel
theorem dX5_readThinks_21 : decode cX5_readThinks 21 = .ok (.istore_n 3, 1) := by decide +kernel
theorem dX5_readThinks_22 : decode cX5_readThinks 22 = .ok (.aload_n 0, 1) := by decide +kernel
theorem dX5_readThinks_23 : decode cX5_readThinks 23 = .ok (.getfield 44, 3) := by decide +kernel
theorem dX5_readThinks_26 : decode cX5_readThinks 26 = .ok (.iload_n 1, 1) := by decide +kernel
theorem dX5_readThinks_27 : decode cX5_readThinks 27 = .ok (.iload_n 2, 1) := by decide +kernel
theorem dX5_readThinks_28 : decode cX5_readThinks 28 = .ok (.invokevirtual 216, 3) := by decide +kernel
theorem dX5_readThinks_31 : decode cX5_readThinks 31 = .ok (.ifCond .eq 20, 3) := by decide +kernel
theorem dX5_readThinks_34 : decode cX5_readThinks 34 = .ok (.aload_n 0, 1) := by decide +kernel
theorem dX5_readThinks_35 : decode cX5_readThinks 35 = .ok (.getfield 44, 3) := by decide +kernel
theorem dX5_readThinks_38 : decode cX5_readThinks 38 = .ok (.getfield 219, 3) := by decide +kernel
theorem dX5_readThinks_41 : decode cX5_readThinks 41 = .ok (.iload_n 1, 1) := by decide +kernel
theorem dX5_readThinks_42 : decode cX5_readThinks 42 = .ok (.bipush 6, 2) := by decide +kernel
theorem dX5_readThinks_44 : decode cX5_readThinks 44 = .ok (.imul, 1) := by decide +kernel
theorem dX5_readThinks_45 : decode cX5_readThinks 45 = .ok (.iload_n 2, 1) := by decide +kernel
theorem dX5_readThinks_46 : decode cX5_readThinks 46 = .ok (.iadd, 1) := by decide +kernel
theorem dX5_readThinks_47 : decode cX5_readThinks 47 = .ok (.iload_n 3, 1) := by decide +kernel
theorem dX5_readThinks_48 : decode cX5_readThinks 48 = .ok (.invokestatic 169, 3) := by decide +kernel
theorem dX5_readThinks_51 : decode cX5_readThinks 51 = .ok (.return_, 1) := by decide +kernel
def fX5_readThinks (σ : zS) : Option zS := bnr (fX5_advance σ) fun σ1 => bnc (fX5_takeHolder σ1) fun v5 σ3 => bnc (fX5_takeTunnel σ3) fun v8 σ6 => bnc (fX5_takeNumber 1 60 σ6) fun v11 σ9 => if (fX6_hasBoth σ9.2.2.2.2 σ9 v5 v8) = 0 then some σ9 else wI σ9 (rp σ9.2.2.2.2 + 10) 36 ((v5 * 6) + v8) v11 fun σ12 => some σ12
theorem eX5_readThinks {sc : Nat × (Nat → Int32)} (σ : zS) (w : zS) (h : fX5_readThinks σ = some w) : zR (zY0 sc) 9 0 0 mX5_readThinks 0 [(0, .ref 54)] [] (zE σ) (none, zE w) := by
  unfold fX5_readThinks at h
  refine kR.aload_n dX5_readThinks_0 0 rfl ?_
  obtain ⟨σ1, e2, h⟩ := bnr_some h
  refine kR.cVv [] dX5_readThinks_1 rfl (by decide) mwX5_114 zp54 (by decide) rfl rfl (Nat.le_of_ble_eq_true rfl) (lX5_advance σ _ e2) ?_
  refine kR.aload_n dX5_readThinks_4 0 rfl ?_
  obtain ⟨v5, σ3, e4, h⟩ := bnc_some h
  refine kR.cVi [] dX5_readThinks_5 rfl (by decide) mwX5_210 zp54 (by decide) rfl rfl (Nat.le_of_ble_eq_true rfl) (lX5_takeHolder σ1 _ e4) ?_
  refine zR.istore_n (i := 1) (ls' := [(1, .int v5), (0, .ref 54)]) dX5_readThinks_8 rfl (by decide) rfl ?_
  refine kR.aload_n dX5_readThinks_9 1 rfl ?_
  obtain ⟨v8, σ6, e7, h⟩ := bnc_some h
  refine kR.cVi [] dX5_readThinks_10 rfl (by decide) mwX5_213 zp54 (by decide) rfl rfl (Nat.le_of_ble_eq_true rfl) (lX5_takeTunnel σ3 _ e7) ?_
  refine zR.istore_n (i := 2) (ls' := [(2, .int v8), (1, .int v5), (0, .ref 54)]) dX5_readThinks_13 rfl (by decide) rfl ?_
  refine kR.aload_n dX5_readThinks_14 2 rfl ?_
  refine zR.iconst (v := 1) dX5_readThinks_15 (by decide) ?_
  refine zR.bipush (v := 60) dX5_readThinks_16 (by decide) ?_
  obtain ⟨v11, σ9, e10, h⟩ := bnc_some h
  refine kR.cVi [.int 1, .int 60] dX5_readThinks_18 rfl (by decide) mwX5_150 zp54 (by decide) rfl rfl (Nat.le_of_ble_eq_true rfl) (lX5_takeNumber 1 60 σ6 _ e10) ?_
  refine zR.istore_n (i := 3) (ls' := [(3, .int v11), (2, .int v8), (1, .int v5), (0, .ref 54)]) dX5_readThinks_21 rfl (by decide) rfl ?_
  refine kR.aload_n dX5_readThinks_22 3 rfl ?_
  refine kR.getR (v := (rp σ9.2.2.2.2 + 0)) dX5_readThinks_23 flX5_44 zcf5 zp54 (Or.inl ⟨_, rfl⟩) rfl ?_
  refine kR.iload_n dX5_readThinks_26 2 rfl ?_
  refine kR.iload_n dX5_readThinks_27 1 rfl ?_
  refine kR.cVi [.int v5, .int v8] dX5_readThinks_28 rfl (by decide) mwX5_216 (zq0 σ9.2.2.2.2) (by decide) rfl rfl (Nat.le_of_ble_eq_true rfl) (lX6_hasBoth σ9.2.2.2.2 σ9 v5 v8) ?_
  refine kR.if_eq (tgt := 51) dX5_readThinks_31 (by decide) h (fun h => ?_) (fun h => ?_)
  · exact kR.vret dX5_readThinks_51 h
  · refine kR.aload_n dX5_readThinks_34 3 rfl ?_
    refine kR.getR (v := (rp σ9.2.2.2.2 + 0)) dX5_readThinks_35 flX5_44 zcf5 zp54 (Or.inl ⟨_, rfl⟩) rfl ?_
    refine kR.getR (v := (rp σ9.2.2.2.2 + 10)) dX5_readThinks_38 flX5_219 zcf6 (zq0 σ9.2.2.2.2) (Or.inr ⟨_, rfl⟩) (zr0_14 _ σ9.2.2.2.2) ?_
    refine kR.iload_n dX5_readThinks_41 2 rfl ?_
    refine zR.bipush (v := 6) dX5_readThinks_42 (by decide) ?_
    refine zR.imul dX5_readThinks_44 ?_
    refine kR.iload_n dX5_readThinks_45 1 rfl ?_
    refine zR.iadd dX5_readThinks_46 ?_
    refine kR.iload_n dX5_readThinks_47 0 rfl ?_
    obtain ⟨σ12, e0, h⟩ := wIv (Nat.le_of_ble_eq_true rfl) h
    refine kR.cSv [.ref (rp σ9.2.2.2.2 + 10), .int ((v5 * 6) + v8), .int v11] dX5_readThinks_48 rfl (by decide) (Or.inr mwX5_169) rfl (Nat.le_of_ble_eq_true rfl) (lX10_setAt (rp σ9.2.2.2.2 + 10) 36 (fun _ => (zq10 σ9.2.2.2.2)) (zl10 σ9.2.2.2.2) (Nat.le_of_ble_eq_true rfl) ((v5 * 6) + v8) v11 σ9 _ e0) ?_
    exact kR.vret dX5_readThinks_51 h
theorem lX5_readThinks {sc : Nat × (Nat → Int32)} (σ : zS) (w : zS) (h : fX5_readThinks σ = some w) : zC (zY0 sc) 9 0 0 mX5_readThinks [.ref 54] (zE σ) (none, zE w) := zC.of (by decide +kernel) (Nat.le_of_ble_eq_true rfl) rfl (eX5_readThinks σ w h)
theorem dX5_readGives_0 : decode cX5_readGives 0 = .ok (.aload_n 0, 1) := by decide +kernel
theorem dX5_readGives_1 : decode cX5_readGives 1 = .ok (.invokevirtual 114, 3) := by decide +kernel
theorem dX5_readGives_4 : decode cX5_readGives 4 = .ok (.aload_n 0, 1) := by decide +kernel
theorem dX5_readGives_5 : decode cX5_readGives 5 = .ok (.invokevirtual 210, 3) := by decide +kernel
theorem dX5_readGives_8 : decode cX5_readGives 8 = .ok (.istore_n 1, 1) := by decide +kernel
theorem dX5_readGives_9 : decode cX5_readGives 9 = .ok (.aload_n 0, 1) := by decide +kernel
theorem dX5_readGives_10 : decode cX5_readGives 10 = .ok (.iconst 0, 1) := by decide +kernel
theorem dX5_readGives_11 : decode cX5_readGives 11 = .ok (.bipush 60, 2) := by decide +kernel
theorem dX5_readGives_13 : decode cX5_readGives 13 = .ok (.invokevirtual 150, 3) := by decide +kernel
theorem dX5_readGives_16 : decode cX5_readGives 16 = .ok (.istore_n 2, 1) := by decide +kernel
theorem dX5_readGives_17 : decode cX5_readGives 17 = .ok (.aload_n 0, 1) := by decide +kernel
theorem dX5_readGives_18 : decode cX5_readGives 18 = .ok (.getfield 44, 3) := by decide +kernel
theorem dX5_readGives_21 : decode cX5_readGives 21 = .ok (.iload_n 1, 1) := by decide +kernel
theorem dX5_readGives_22 : decode cX5_readGives 22 = .ok (.invokevirtual 222, 3) := by decide +kernel
theorem dX5_readGives_25 : decode cX5_readGives 25 = .ok (.ifCond .eq 15, 3) := by decide +kernel
theorem dX5_readGives_28 : decode cX5_readGives 28 = .ok (.aload_n 0, 1) := by decide +kernel
theorem dX5_readGives_29 : decode cX5_readGives 29 = .ok (.getfield 44, 3) := by decide +kernel
theorem dX5_readGives_32 : decode cX5_readGives 32 = .ok (.getfield 225, 3) := by decide +kernel
theorem dX5_readGives_35 : decode cX5_readGives 35 = .ok (.iload_n 1, 1) := by decide +kernel
theorem dX5_readGives_36 : decode cX5_readGives 36 = .ok (.iload_n 2, 1) := by decide +kernel
theorem dX5_readGives_37 : decode cX5_readGives 37 = .ok (.invokestatic 169, 3) := by decide +kernel
theorem dX5_readGives_40 : decode cX5_readGives 40 = .ok (.return_, 1) := by decide +kernel
def fX5_readGives (σ : zS) : Option zS := bnr (fX5_advance σ) fun σ1 => bnc (fX5_takeHolder σ1) fun v5 σ3 => bnc (fX5_takeNumber 0 60 σ3) fun v8 σ6 => if (fX6_hasHolder σ6.2.2.2.2 σ6 v5) = 0 then some σ6 else wI σ6 (rp σ6.2.2.2.2 + 9) 6 v5 v8 fun σ9 => some σ9
theorem eX5_readGives {sc : Nat × (Nat → Int32)} (σ : zS) (w : zS) (h : fX5_readGives σ = some w) : zR (zY0 sc) 9 0 0 mX5_readGives 0 [(0, .ref 54)] [] (zE σ) (none, zE w) := by
  unfold fX5_readGives at h
  refine kR.aload_n dX5_readGives_0 0 rfl ?_
  obtain ⟨σ1, e2, h⟩ := bnr_some h
  refine kR.cVv [] dX5_readGives_1 rfl (by decide) mwX5_114 zp54 (by decide) rfl rfl (Nat.le_of_ble_eq_true rfl) (lX5_advance σ _ e2) ?_
  refine kR.aload_n dX5_readGives_4 0 rfl ?_
  obtain ⟨v5, σ3, e4, h⟩ := bnc_some h
  refine kR.cVi [] dX5_readGives_5 rfl (by decide) mwX5_210 zp54 (by decide) rfl rfl (Nat.le_of_ble_eq_true rfl) (lX5_takeHolder σ1 _ e4) ?_
  refine zR.istore_n (i := 1) (ls' := [(1, .int v5), (0, .ref 54)]) dX5_readGives_8 rfl (by decide) rfl ?_
  refine kR.aload_n dX5_readGives_9 1 rfl ?_
  refine zR.iconst (v := 0) dX5_readGives_10 (by decide) ?_
  refine zR.bipush (v := 60) dX5_readGives_11 (by decide) ?_
  obtain ⟨v8, σ6, e7, h⟩ := bnc_some h
  refine kR.cVi [.int 0, .int 60] dX5_readGives_13 rfl (by decide) mwX5_150 zp54 (by decide) rfl rfl (Nat.le_of_ble_eq_true rfl) (lX5_takeNumber 0 60 σ3 _ e7) ?_
  refine zR.istore_n (i := 2) (ls' := [(2, .int v8), (1, .int v5), (0, .ref 54)]) dX5_readGives_16 rfl (by decide) rfl ?_
  refine kR.aload_n dX5_readGives_17 2 rfl ?_
  refine kR.getR (v := (rp σ6.2.2.2.2 + 0)) dX5_readGives_18 flX5_44 zcf5 zp54 (Or.inl ⟨_, rfl⟩) rfl ?_
  refine kR.iload_n dX5_readGives_21 1 rfl ?_
  refine kR.cVi [.int v5] dX5_readGives_22 rfl (by decide) mwX5_222 (zq0 σ6.2.2.2.2) (by decide) rfl rfl (Nat.le_of_ble_eq_true rfl) (lX6_hasHolder σ6.2.2.2.2 σ6 v5) ?_
  refine kR.if_eq (tgt := 40) dX5_readGives_25 (by decide) h (fun h => ?_) (fun h => ?_)
  · exact kR.vret dX5_readGives_40 h
  · refine kR.aload_n dX5_readGives_28 2 rfl ?_
    refine kR.getR (v := (rp σ6.2.2.2.2 + 0)) dX5_readGives_29 flX5_44 zcf5 zp54 (Or.inl ⟨_, rfl⟩) rfl ?_
    refine kR.getR (v := (rp σ6.2.2.2.2 + 9)) dX5_readGives_32 flX5_225 zcf6 (zq0 σ6.2.2.2.2) (Or.inr ⟨_, rfl⟩) (zr0_13 _ σ6.2.2.2.2) ?_
    refine kR.iload_n dX5_readGives_35 1 rfl ?_
    refine kR.iload_n dX5_readGives_36 0 rfl ?_
    obtain ⟨σ9, e0, h⟩ := wIv (Nat.le_of_ble_eq_true rfl) h
    refine kR.cSv [.ref (rp σ6.2.2.2.2 + 9), .int v5, .int v8] dX5_readGives_37 rfl (by decide) (Or.inr mwX5_169) rfl (Nat.le_of_ble_eq_true rfl) (lX10_setAt (rp σ6.2.2.2.2 + 9) 6 (fun _ => (zq9 σ6.2.2.2.2)) (zl9 σ6.2.2.2.2) (Nat.le_of_ble_eq_true rfl) v5 v8 σ6 _ e0) ?_
    exact kR.vret dX5_readGives_40 h
theorem lX5_readGives {sc : Nat × (Nat → Int32)} (σ : zS) (w : zS) (h : fX5_readGives σ = some w) : zC (zY0 sc) 9 0 0 mX5_readGives [.ref 54] (zE σ) (none, zE w) := zC.of (by decide +kernel) (Nat.le_of_ble_eq_true rfl) rfl (eX5_readGives σ w h)
theorem dX8_isTold_0 : decode cX8_isTold 0 = .ok (.aload_n 0, 1) := by decide +kernel
theorem dX8_isTold_1 : decode cX8_isTold 1 = .ok (.getfield 28, 3) := by decide +kernel
theorem dX8_isTold_4 : decode cX8_isTold 4 = .ok (.iload_n 1, 1) := by decide +kernel
theorem dX8_isTold_5 : decode cX8_isTold 5 = .ok (.invokestatic 37, 3) := by decide +kernel
theorem dX8_isTold_8 : decode cX8_isTold 8 = .ok (.aload_n 0, 1) := by decide +kernel
theorem dX8_isTold_9 : decode cX8_isTold 9 = .ok (.getfield 25, 3) := by decide +kernel
theorem dX8_isTold_12 : decode cX8_isTold 12 = .ok (.iload_n 1, 1) := by decide +kernel
theorem dX8_isTold_13 : decode cX8_isTold 13 = .ok (.invokestatic 37, 3) := by decide +kernel
theorem dX8_isTold_16 : decode cX8_isTold 16 = .ok (.if_icmp .le 7, 3) := by decide +kernel
theorem dX8_isTold_19 : decode cX8_isTold 19 = .ok (.iconst 1, 1) := by decide +kernel
theorem dX8_isTold_20 : decode cX8_isTold 20 = .ok (.goto 4, 3) := by decide +kernel
theorem dX8_isTold_23 : decode cX8_isTold 23 = .ok (.iconst 0, 1) := by decide +kernel
theorem dX8_isTold_24 : decode cX8_isTold 24 = .ok (.ireturn, 1) := by decide +kernel
def fX8_isTold (b0 : Bool) (σ : zS) (p1 : Int32) : Option Int32 := aI σ (rp b0 + 15) 2 p1 fun v1 => aI σ (rp b0 + 14) 2 p1 fun v2 => if v1 ≤ v2 then some 0 else some 1
theorem eX8_isTold {sc : Nat × (Nat → Int32)} (b0 : Bool) (σ : zS) (p1 : Int32) (w : Int32) (h : fX8_isTold b0 σ p1 = some w) : zR (zY0 sc) 2 0 0 mX8_isTold 0 [(0, .ref (rp b0 + 11)), (1, .int p1)] [] (zE σ) (some (.int w), zE σ) := by
  unfold fX8_isTold at h
  refine kR.aload_n dX8_isTold_0 0 rfl ?_
  refine kR.getR (v := (rp b0 + 15)) dX8_isTold_1 flX8_28 zcf8 (zq11 b0) (Or.inr ⟨_, rfl⟩) (zr11_5 _ b0) ?_
  refine kR.iload_n dX8_isTold_4 1 rfl ?_
  obtain ⟨v1, e0, h⟩ := aIv (Nat.le_of_ble_eq_true rfl) h
  refine kR.cSi [.ref (rp b0 + 15), .int p1] dX8_isTold_5 rfl (by decide) (Or.inr mwX8_37) rfl (Nat.le_of_ble_eq_true rfl) (lX10_valueAt (rp b0 + 15) 2 σ (fun _ => (zq15 b0)) (zl15 b0) (Nat.le_of_ble_eq_true rfl) p1 _ e0) ?_
  refine kR.aload_n dX8_isTold_8 0 rfl ?_
  refine kR.getR (v := (rp b0 + 14)) dX8_isTold_9 flX8_25 zcf8 (zq11 b0) (Or.inr ⟨_, rfl⟩) (zr11_4 _ b0) ?_
  refine kR.iload_n dX8_isTold_12 1 rfl ?_
  obtain ⟨v2, e0, h⟩ := aIv (Nat.le_of_ble_eq_true rfl) h
  refine kR.cSi [.ref (rp b0 + 14), .int p1] dX8_isTold_13 rfl (by decide) (Or.inr mwX8_37) rfl (Nat.le_of_ble_eq_true rfl) (lX10_valueAt (rp b0 + 14) 2 σ (fun _ => (zq14 b0)) (zl14 b0) (Nat.le_of_ble_eq_true rfl) p1 _ e0) ?_
  refine kR.icmp_le (tgt := 23) dX8_isTold_16 (by decide) h (fun h => ?_) (fun h => ?_)
  · refine zR.iconst (v := 0) dX8_isTold_23 (by decide) ?_
    exact kR.iretO dX8_isTold_24 (nzZ rfl (Or.inl rfl)) h
  · refine zR.iconst (v := 1) dX8_isTold_19 (by decide) ?_
    refine zR.goto (tgt := 24) dX8_isTold_20 (by decide) ?_
    exact kR.iretO dX8_isTold_24 (nzZ rfl (Or.inr rfl)) h
theorem lX8_isTold {sc : Nat × (Nat → Int32)} (b0 : Bool) (σ : zS) (p1 : Int32) (w : Int32) (h : fX8_isTold b0 σ p1 = some w) : zC (zY0 sc) 2 0 0 mX8_isTold [.ref (rp b0 + 11), .int p1] (zE σ) (some (.int w), zE σ) := zC.of (by decide +kernel) (Nat.le_of_ble_eq_true rfl) ⟨_, rfl⟩ (eX8_isTold b0 σ p1 w h)

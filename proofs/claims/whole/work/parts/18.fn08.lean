/-! MY OWN (by program): X7_keepNothing, X7_setScore, X3_putInto, X10_goOn, X10_status, X11_is, X11_put, X11_refuses, X11_feed, X11_end, X11_blame, X11_isLetter, X11_isDigit, X11_lex, X11_ahead, X11_isSign, X11_isWord, X11_must, X11_isOwn, X11_manyOf -/
theorem dX7_keepNothing_0 : decode cX7_keepNothing 0 = .ok (.aload_n 0, 1) := by decide +kernel
theorem dX7_keepNothing_1 : decode cX7_keepNothing 1 = .ok (.getfield 11, 3) := by decide +kernel
theorem dX7_keepNothing_4 : decode cX7_keepNothing 4 = .ok (.iconst 1, 1) := by decide +kernel
theorem dX7_keepNothing_5 : decode cX7_keepNothing 5 = .ok (.iconst 0, 1) := by decide +kernel
theorem dX7_keepNothing_6 : decode cX7_keepNothing 6 = .ok (.iastore, 1) := by decide +kernel
theorem dX7_keepNothing_7 : decode cX7_keepNothing 7 = .ok (.return_, 1) := by decide +kernel
def fX7_keepNothing (σ : zS) : Option zS := wI σ 5 104 1 0 fun σ1 => some σ1
theorem eX7_keepNothing {sc : Nat × (Nat → Int32)} (σ : zS) (w : zS) (h : fX7_keepNothing σ = some w) : zR (zY0 sc) 1 0 0 mX7_keepNothing 0 [(0, .ref 4)] [] (zE σ) (none, zE w) := by
  unfold fX7_keepNothing at h
  refine kR.aload_n dX7_keepNothing_0 0 rfl ?_
  refine kR.getR (v := 5) dX7_keepNothing_1 flX7_11 zcf7 zp4 (Or.inr ⟨_, rfl⟩) rfl ?_
  refine zR.iconst (v := 1) dX7_keepNothing_4 (by decide) ?_
  refine zR.iconst (v := 0) dX7_keepNothing_5 (by decide) ?_
  refine kR.iast dX7_keepNothing_6 zp5 rfl h (fun σ1 h => ?_)
  exact kR.vret dX7_keepNothing_7 h
theorem lX7_keepNothing {sc : Nat × (Nat → Int32)} (σ : zS) (w : zS) (h : fX7_keepNothing σ = some w) : zC (zY0 sc) 1 0 0 mX7_keepNothing [.ref 4] (zE σ) (none, zE w) := zC.of (by decide +kernel) (Nat.le_of_ble_eq_true rfl) rfl (eX7_keepNothing σ w h)
theorem dX7_setScore_0 : decode cX7_setScore 0 = .ok (.aload_n 0, 1) := by decide +kernel
theorem dX7_setScore_1 : decode cX7_setScore 1 = .ok (.getfield 11, 3) := by decide +kernel
theorem dX7_setScore_4 : decode cX7_setScore 4 = .ok (.bipush 62, 2) := by decide +kernel
theorem dX7_setScore_6 : decode cX7_setScore 6 = .ok (.iload_n 1, 1) := by decide +kernel
theorem dX7_setScore_7 : decode cX7_setScore 7 = .ok (.iadd, 1) := by decide +kernel
theorem dX7_setScore_8 : decode cX7_setScore 8 = .ok (.iload_n 2, 1) := by decide +kernel
theorem dX7_setScore_9 : decode cX7_setScore 9 = .ok (.iastore, 1) := by decide +kernel
theorem dX7_setScore_10 : decode cX7_setScore 10 = .ok (.return_, 1) := by decide +kernel
def fX7_setScore (p1 : Int32) (p2 : Int32) (σ : zS) : Option zS := wI σ 5 104 (62 + p1) p2 fun σ1 => some σ1
theorem eX7_setScore {sc : Nat × (Nat → Int32)} (p1 : Int32) (p2 : Int32) (σ : zS) (w : zS) (h : fX7_setScore p1 p2 σ = some w) : zR (zY0 sc) 1 0 0 mX7_setScore 0 [(0, .ref 4), (1, .int p1), (2, .int p2)] [] (zE σ) (none, zE w) := by
  unfold fX7_setScore at h
  refine kR.aload_n dX7_setScore_0 0 rfl ?_
  refine kR.getR (v := 5) dX7_setScore_1 flX7_11 zcf7 zp4 (Or.inr ⟨_, rfl⟩) rfl ?_
  refine zR.bipush (v := 62) dX7_setScore_4 (by decide) ?_
  refine kR.iload_n dX7_setScore_6 1 rfl ?_
  refine zR.iadd dX7_setScore_7 ?_
  refine kR.iload_n dX7_setScore_8 2 rfl ?_
  refine kR.iast dX7_setScore_9 zp5 rfl h (fun σ1 h => ?_)
  exact kR.vret dX7_setScore_10 h
theorem lX7_setScore {sc : Nat × (Nat → Int32)} (p1 : Int32) (p2 : Int32) (σ : zS) (w : zS) (h : fX7_setScore p1 p2 σ = some w) : zC (zY0 sc) 1 0 0 mX7_setScore [.ref 4, .int p1, .int p2] (zE σ) (none, zE w) := zC.of (by decide +kernel) (Nat.le_of_ble_eq_true rfl) rfl (eX7_setScore p1 p2 σ w h)
theorem dX3_putInto_0 : decode cX3_putInto 0 = .ok (.aload_n 2, 1) := by decide +kernel
theorem dX3_putInto_1 : decode cX3_putInto 1 = .ok (.invokevirtual 82, 3) := by decide +kernel
theorem dX3_putInto_4 : decode cX3_putInto 4 = .ok (.aload_n 2, 1) := by decide +kernel
theorem dX3_putInto_5 : decode cX3_putInto 5 = .ok (.aload_n 0, 1) := by decide +kernel
theorem dX3_putInto_6 : decode cX3_putInto 6 = .ok (.iconst 0, 1) := by decide +kernel
theorem dX3_putInto_7 : decode cX3_putInto 7 = .ok (.invokevirtual 62, 3) := by decide +kernel
theorem dX3_putInto_10 : decode cX3_putInto 10 = .ok (.invokevirtual 85, 3) := by decide +kernel
theorem dX3_putInto_13 : decode cX3_putInto 13 = .ok (.iconst 0, 1) := by decide +kernel
theorem dX3_putInto_14 : decode cX3_putInto 14 = .ok (.istore_n 3, 1) := by decide +kernel
theorem dX3_putInto_15 : decode cX3_putInto 15 = .ok (.iload_n 3, 1) := by decide +kernel
theorem dX3_putInto_16 : decode cX3_putInto 16 = .ok (.aload_n 1, 1) := by decide +kernel
theorem dX3_putInto_17 : decode cX3_putInto 17 = .ok (.getfield 29, 3) := by decide +kernel
theorem dX3_putInto_20 : decode cX3_putInto 20 = .ok (.if_icmp .ge 92, 3) := by decide +kernel
theorem dX3_putInto_23 : decode cX3_putInto 23 = .ok (.iconst 1, 1) := by decide +kernel
theorem dX3_putInto_24 : decode cX3_putInto 24 = .ok (.iload_n 3, 1) := by decide +kernel
theorem dX3_putInto_25 : decode cX3_putInto 25 = .ok (.aload_n 1, 1) := by decide +kernel
theorem dX3_putInto_26 : decode cX3_putInto 26 = .ok (.invokestatic 55, 3) := by decide +kernel
theorem dX3_putInto_29 : decode cX3_putInto 29 = .ok (.imul, 1) := by decide +kernel
theorem dX3_putInto_30 : decode cX3_putInto 30 = .ok (.iadd, 1) := by decide +kernel
theorem dX3_putInto_31 : decode cX3_putInto 31 = .ok (.istore 4, 2) := by decide +kernel
theorem dX3_putInto_33 : decode cX3_putInto 33 = .ok (.aload_n 2, 1) := by decide +kernel
theorem dX3_putInto_34 : decode cX3_putInto 34 = .ok (.iload_n 3, 1) := by decide +kernel
theorem dX3_putInto_35 : decode cX3_putInto 35 = .ok (.aload_n 0, 1) := by decide +kernel
theorem dX3_putInto_36 : decode cX3_putInto 36 = .ok (.iload 4, 2) := by decide +kernel
theorem dX3_putInto_38 : decode cX3_putInto 38 = .ok (.invokevirtual 62, 3) := by decide +kernel
theorem dX3_putInto_41 : decode cX3_putInto 41 = .ok (.invokevirtual 88, 3) := by decide +kernel
theorem dX3_putInto_44 : decode cX3_putInto 44 = .ok (.aload_n 2, 1) := by decide +kernel
theorem dX3_putInto_45 : decode cX3_putInto 45 = .ok (.iload_n 3, 1) := by decide +kernel
theorem dX3_putInto_46 : decode cX3_putInto 46 = .ok (.aload_n 0, 1) := by decide +kernel
theorem dX3_putInto_47 : decode cX3_putInto 47 = .ok (.iload 4, 2) := by decide +kernel
theorem dX3_putInto_49 : decode cX3_putInto 49 = .ok (.iconst 1, 1) := by decide +kernel
theorem dX3_putInto_50 : decode cX3_putInto 50 = .ok (.iadd, 1) := by decide +kernel
theorem dX3_putInto_51 : decode cX3_putInto 51 = .ok (.invokevirtual 62, 3) := by decide +kernel
theorem dX3_putInto_54 : decode cX3_putInto 54 = .ok (.invokevirtual 92, 3) := by decide +kernel
theorem dX3_putInto_57 : decode cX3_putInto 57 = .ok (.aload_n 2, 1) := by decide +kernel
theorem dX3_putInto_58 : decode cX3_putInto 58 = .ok (.iload_n 3, 1) := by decide +kernel
theorem dX3_putInto_59 : decode cX3_putInto 59 = .ok (.aload_n 0, 1) := by decide +kernel
theorem dX3_putInto_60 : decode cX3_putInto 60 = .ok (.iload 4, 2) := by decide +kernel
theorem dX3_putInto_62 : decode cX3_putInto 62 = .ok (.iconst 2, 1) := by decide +kernel
theorem dX3_putInto_63 : decode cX3_putInto 63 = .ok (.iadd, 1) := by decide +kernel
theorem dX3_putInto_64 : decode cX3_putInto 64 = .ok (.invokestatic 76, 3) := by decide +kernel
theorem dX3_putInto_67 : decode cX3_putInto 67 = .ok (.invokevirtual 95, 3) := by decide +kernel
theorem dX3_putInto_70 : decode cX3_putInto 70 = .ok (.iconst 0, 1) := by decide +kernel
theorem dX3_putInto_71 : decode cX3_putInto 71 = .ok (.istore 5, 2) := by decide +kernel
theorem dX3_putInto_73 : decode cX3_putInto 73 = .ok (.iload 5, 2) := by decide +kernel
theorem dX3_putInto_75 : decode cX3_putInto 75 = .ok (.aload_n 1, 1) := by decide +kernel
theorem dX3_putInto_76 : decode cX3_putInto 76 = .ok (.getfield 45, 3) := by decide +kernel
theorem dX3_putInto_79 : decode cX3_putInto 79 = .ok (.if_icmp .ge 27, 3) := by decide +kernel
theorem dX3_putInto_82 : decode cX3_putInto 82 = .ok (.aload_n 2, 1) := by decide +kernel
theorem dX3_putInto_83 : decode cX3_putInto 83 = .ok (.iload_n 3, 1) := by decide +kernel
theorem dX3_putInto_84 : decode cX3_putInto 84 = .ok (.iload 5, 2) := by decide +kernel
theorem dX3_putInto_86 : decode cX3_putInto 86 = .ok (.aload_n 0, 1) := by decide +kernel
theorem dX3_putInto_87 : decode cX3_putInto 87 = .ok (.iload 4, 2) := by decide +kernel
theorem dX3_putInto_89 : decode cX3_putInto 89 = .ok (.iconst 5, 1) := by decide +kernel
theorem dX3_putInto_90 : decode cX3_putInto 90 = .ok (.iadd, 1) := by decide +kernel
theorem dX3_putInto_91 : decode cX3_putInto 91 = .ok (.iload 5, 2) := by decide +kernel
theorem dX3_putInto_93 : decode cX3_putInto 93 = .ok (.iadd, 1) := by decide +kernel
theorem dX3_putInto_94 : decode cX3_putInto 94 = .ok (.invokevirtual 62, 3) := by decide +kernel
theorem dX3_putInto_97 : decode cX3_putInto 97 = .ok (.invokevirtual 98, 3) := by decide +kernel
theorem dX3_putInto_100 : decode cX3_putInto 100 = .ok (.iinc 5 1, 3) := by decide +kernel
theorem dX3_putInto_103 : decode cX3_putInto 103 = .ok (.goto (-30), 3) := by decide +kernel
theorem dX3_putInto_106 : decode cX3_putInto 106 = .ok (.iinc 3 1, 3) := by decide +kernel
theorem dX3_putInto_109 : decode cX3_putInto 109 = .ok (.goto (-94), 3) := by decide +kernel
theorem dX3_putInto_112 : decode cX3_putInto 112 = .ok (.return_, 1) := by decide +kernel
def fX3_putInto_73 (b1 : Bool) (r15 : Int32 → zS → Option zS) : Nat → Int32 → Int32 → Int32 → zS → Option zS
  | 0, _, _, _, _ => none
  | f + 1, x3, x4, x5, σ => if (iG σ (rp b1 + 0) 1) ≤ x5 then r15 (x3 + 1) σ else bnr (fX9_byteAt σ ((x4 + 5) + x5)) fun v19 => bnr (fX7_setThinks x3 x5 v19 σ) fun σ21 => fX3_putInto_73 b1 r15 f x3 x4 (x5 + 1) σ21
theorem kX3_putInto_73 {sc : Nat × (Nat → Int32)} (b1 : Bool) (r15 : Int32 → zS → Option zS) (hr15 : ∀ (x3 : Int32) (σ : zS) (w : zS), r15 x3 σ = some w → zR (zY0 sc) 3 0 0 mX3_putInto 15 [(0, .ref 2), (1, .ref (rp b1 + 0)), (2, .ref 4), (3, .int x3)] [] (zE σ) (none, zE w)) : ∀ (fuel : Nat) (x3 : Int32) (x4 : Int32) (x5 : Int32) (σ : zS) (w : zS) (h : fX3_putInto_73 b1 r15 fuel x3 x4 x5 σ = some w), zR (zY0 sc) 3 0 0 mX3_putInto 73 [(0, .ref 2), (1, .ref (rp b1 + 0)), (2, .ref 4), (3, .int x3), (4, .int x4), (5, .int x5)] [] (zE σ) (none, zE w) := by
  intro fuel
  induction fuel with
  | zero => intro x3 x4 x5 σ w h; exact nomatch h
  | succ f ih =>
    intro x3 x4 x5 σ w h
    rw [fX3_putInto_73] at h
    refine kR.iload dX3_putInto_73 5 rfl ?_
    refine kR.aload_n dX3_putInto_75 1 rfl ?_
    refine kR.getI dX3_putInto_76 flX3_45 zcf6 (zq0 b1) (Or.inl rfl) ?_
    refine kR.icmp_ge (tgt := 106) dX3_putInto_79 (by decide) h (fun h => ?_) (fun h => ?_)
    · refine zR.iinc 3 (v := x3 + 1) (ls' := [(3, .int (x3 + 1)), (0, .ref 2), (1, .ref (rp b1 + 0)), (2, .ref 4), (4, .int x4), (5, .int x5)]) dX3_putInto_106 rfl rfl (by decide) rfl ?_
      refine zR.goto (tgt := 15) dX3_putInto_109 (by decide) ?_
      refine zR.sub [1, 2, 3, 0] rfl ?_
      exact hr15 _ _ _ h
    · refine kR.aload_n dX3_putInto_82 2 rfl ?_
      refine kR.iload_n dX3_putInto_83 3 rfl ?_
      refine kR.iload dX3_putInto_84 5 rfl ?_
      refine kR.aload_n dX3_putInto_86 0 rfl ?_
      refine kR.iload dX3_putInto_87 4 rfl ?_
      refine zR.iconst (v := 5) dX3_putInto_89 (by decide) ?_
      refine zR.iadd dX3_putInto_90 ?_
      refine kR.iload dX3_putInto_91 5 rfl ?_
      refine zR.iadd dX3_putInto_93 ?_
      obtain ⟨v19, e20, h⟩ := bnr_some h
      refine kR.cVi [.int ((x4 + 5) + x5)] dX3_putInto_94 rfl (by decide) mwX3_62 zp2 (by decide) rfl rfl (Nat.le_of_ble_eq_true rfl) (lX9_byteAt σ ((x4 + 5) + x5) _ e20) ?_
      obtain ⟨σ21, e22, h⟩ := bnr_some h
      refine kR.cVv [.int x3, .int x5, .int v19] dX3_putInto_97 rfl (by decide) mwX3_98 zp4 (by decide) rfl rfl (Nat.le_of_ble_eq_true rfl) (lX7_setThinks x3 x5 v19 σ _ e22) ?_
      refine zR.iinc 5 (v := x5 + 1) (ls' := [(5, .int (x5 + 1)), (0, .ref 2), (1, .ref (rp b1 + 0)), (2, .ref 4), (3, .int x3), (4, .int x4)]) dX3_putInto_100 rfl rfl (by decide) rfl ?_
      refine zR.goto (tgt := 73) dX3_putInto_103 (by decide) ?_
      refine zR.sub [1, 2, 3, 4, 5, 0] rfl ?_
      exact ih _ _ _ _ _ h
def fX3_putInto_15 (b1 : Bool) : Nat → Int32 → zS → Option zS
  | 0, _, _ => none
  | f + 1, x3, σ => if (iG σ (rp b1 + 0) 2) ≤ x3 then some σ else bnr (fX9_byteAt σ (1 + (x3 * (fX3_holderSize b1 σ)))) fun v7 => bnr (fX7_setBreath x3 v7 σ) fun σ9 => bnr (fX9_byteAt σ9 ((1 + (x3 * (fX3_holderSize b1 σ))) + 1)) fun v11 => bnr (fX7_setGives x3 v11 σ9) fun σ13 => bnr (fX3_scoreAt σ13 ((1 + (x3 * (fX3_holderSize b1 σ))) + 2)) fun v15 => bnr (fX7_setScore x3 v15 σ13) fun σ17 => fX3_putInto_73 b1 (fX3_putInto_15 b1 f) zF x3 (1 + (x3 * (fX3_holderSize b1 σ))) 0 σ17
theorem kX3_putInto_15 {sc : Nat × (Nat → Int32)} (b1 : Bool) : ∀ (fuel : Nat) (x3 : Int32) (σ : zS) (w : zS) (h : fX3_putInto_15 b1 fuel x3 σ = some w), zR (zY0 sc) 3 0 0 mX3_putInto 15 [(0, .ref 2), (1, .ref (rp b1 + 0)), (2, .ref 4), (3, .int x3)] [] (zE σ) (none, zE w) := by
  intro fuel
  induction fuel with
  | zero => intro x3 σ w h; exact nomatch h
  | succ f ih =>
    intro x3 σ w h
    rw [fX3_putInto_15] at h
    refine kR.iload_n dX3_putInto_15 3 rfl ?_
    refine kR.aload_n dX3_putInto_16 1 rfl ?_
    refine kR.getI dX3_putInto_17 flX3_29 zcf6 (zq0 b1) (Or.inl rfl) ?_
    refine kR.icmp_ge (tgt := 112) dX3_putInto_20 (by decide) h (fun h => ?_) (fun h => ?_)
    · exact kR.vret dX3_putInto_112 h
    · refine zR.iconst (v := 1) dX3_putInto_23 (by decide) ?_
      refine kR.iload_n dX3_putInto_24 3 rfl ?_
      refine kR.aload_n dX3_putInto_25 1 rfl ?_
      refine kR.cSi [.ref (rp b1 + 0)] dX3_putInto_26 rfl (by decide) (Or.inl mwX3_55) rfl (Nat.le_of_ble_eq_true rfl) (lX3_holderSize b1 σ) ?_
      refine zR.imul dX3_putInto_29 ?_
      refine zR.iadd dX3_putInto_30 ?_
      refine zR.istore (i := 4) (ls' := [(4, .int (1 + (x3 * (fX3_holderSize b1 σ)))), (0, .ref 2), (1, .ref (rp b1 + 0)), (2, .ref 4), (3, .int x3)]) dX3_putInto_31 (by decide) rfl ?_
      refine kR.aload_n dX3_putInto_33 3 rfl ?_
      refine kR.iload_n dX3_putInto_34 4 rfl ?_
      refine kR.aload_n dX3_putInto_35 1 rfl ?_
      refine kR.iload dX3_putInto_36 0 rfl ?_
      obtain ⟨v7, e8, h⟩ := bnr_some h
      refine kR.cVi [.int (1 + (x3 * (fX3_holderSize b1 σ)))] dX3_putInto_38 rfl (by decide) mwX3_62 zp2 (by decide) rfl rfl (Nat.le_of_ble_eq_true rfl) (lX9_byteAt σ (1 + (x3 * (fX3_holderSize b1 σ))) _ e8) ?_
      obtain ⟨σ9, e10, h⟩ := bnr_some h
      refine kR.cVv [.int x3, .int v7] dX3_putInto_41 rfl (by decide) mwX3_88 zp4 (by decide) rfl rfl (Nat.le_of_ble_eq_true rfl) (lX7_setBreath x3 v7 σ _ e10) ?_
      refine kR.aload_n dX3_putInto_44 3 rfl ?_
      refine kR.iload_n dX3_putInto_45 4 rfl ?_
      refine kR.aload_n dX3_putInto_46 1 rfl ?_
      refine kR.iload dX3_putInto_47 0 rfl ?_
      refine zR.iconst (v := 1) dX3_putInto_49 (by decide) ?_
      refine zR.iadd dX3_putInto_50 ?_
      obtain ⟨v11, e12, h⟩ := bnr_some h
      refine kR.cVi [.int ((1 + (x3 * (fX3_holderSize b1 σ))) + 1)] dX3_putInto_51 rfl (by decide) mwX3_62 zp2 (by decide) rfl rfl (Nat.le_of_ble_eq_true rfl) (lX9_byteAt σ9 ((1 + (x3 * (fX3_holderSize b1 σ))) + 1) _ e12) ?_
      obtain ⟨σ13, e14, h⟩ := bnr_some h
      refine kR.cVv [.int x3, .int v11] dX3_putInto_54 rfl (by decide) mwX3_92 zp4 (by decide) rfl rfl (Nat.le_of_ble_eq_true rfl) (lX7_setGives x3 v11 σ9 _ e14) ?_
      refine kR.aload_n dX3_putInto_57 3 rfl ?_
      refine kR.iload_n dX3_putInto_58 4 rfl ?_
      refine kR.aload_n dX3_putInto_59 1 rfl ?_
      refine kR.iload dX3_putInto_60 0 rfl ?_
      refine zR.iconst (v := 2) dX3_putInto_62 (by decide) ?_
      refine zR.iadd dX3_putInto_63 ?_
      obtain ⟨v15, e16, h⟩ := bnr_some h
      refine kR.cSi [.ref 2, .int ((1 + (x3 * (fX3_holderSize b1 σ))) + 2)] dX3_putInto_64 rfl (by decide) (Or.inl mwX3_76) rfl (Nat.le_of_ble_eq_true rfl) (lX3_scoreAt σ13 ((1 + (x3 * (fX3_holderSize b1 σ))) + 2) _ e16) ?_
      obtain ⟨σ17, e18, h⟩ := bnr_some h
      refine kR.cVv [.int x3, .int v15] dX3_putInto_67 rfl (by decide) mwX3_95 zp4 (by decide) rfl rfl (Nat.le_of_ble_eq_true rfl) (lX7_setScore x3 v15 σ13 _ e18) ?_
      refine zR.iconst (v := 0) dX3_putInto_70 (by decide) ?_
      refine zR.istore (i := 5) (ls' := [(5, .int 0), (4, .int (1 + (x3 * (fX3_holderSize b1 σ)))), (0, .ref 2), (1, .ref (rp b1 + 0)), (2, .ref 4), (3, .int x3)]) dX3_putInto_71 (by decide) rfl ?_
      refine zR.sub [2, 3, 4, 5, 1, 0] rfl ?_
      exact kX3_putInto_73 b1 (fX3_putInto_15 b1 f) ih zF _ _ _ _ _ h
def fX3_putInto (b1 : Bool) (σ : zS) : Option zS := bnr (fX7_keepNothing σ) fun σ1 => bnr (fX9_byteAt σ1 0) fun v3 => bnr (fX7_setNextTunnel v3 σ1) fun σ5 => fX3_putInto_15 b1 zF 0 σ5
theorem eX3_putInto {sc : Nat × (Nat → Int32)} (b1 : Bool) (σ : zS) (w : zS) (h : fX3_putInto b1 σ = some w) : zR (zY0 sc) 3 0 0 mX3_putInto 0 [(0, .ref 2), (1, .ref (rp b1 + 0)), (2, .ref 4)] [] (zE σ) (none, zE w) := by
  unfold fX3_putInto at h
  refine kR.aload_n dX3_putInto_0 2 rfl ?_
  obtain ⟨σ1, e2, h⟩ := bnr_some h
  refine kR.cVv [] dX3_putInto_1 rfl (by decide) mwX3_82 zp4 (by decide) rfl rfl (Nat.le_of_ble_eq_true rfl) (lX7_keepNothing σ _ e2) ?_
  refine kR.aload_n dX3_putInto_4 2 rfl ?_
  refine kR.aload_n dX3_putInto_5 0 rfl ?_
  refine zR.iconst (v := 0) dX3_putInto_6 (by decide) ?_
  obtain ⟨v3, e4, h⟩ := bnr_some h
  refine kR.cVi [.int 0] dX3_putInto_7 rfl (by decide) mwX3_62 zp2 (by decide) rfl rfl (Nat.le_of_ble_eq_true rfl) (lX9_byteAt σ1 0 _ e4) ?_
  obtain ⟨σ5, e6, h⟩ := bnr_some h
  refine kR.cVv [.int v3] dX3_putInto_10 rfl (by decide) mwX3_85 zp4 (by decide) rfl rfl (Nat.le_of_ble_eq_true rfl) (lX7_setNextTunnel v3 σ1 _ e6) ?_
  refine zR.iconst (v := 0) dX3_putInto_13 (by decide) ?_
  refine zR.istore_n (i := 3) (ls' := [(3, .int 0), (0, .ref 2), (1, .ref (rp b1 + 0)), (2, .ref 4)]) dX3_putInto_14 rfl (by decide) rfl ?_
  refine zR.sub [1, 2, 3, 0] rfl ?_
  exact kX3_putInto_15 b1 zF _ _ _ h
theorem lX3_putInto {sc : Nat × (Nat → Int32)} (b1 : Bool) (σ : zS) (w : zS) (h : fX3_putInto b1 σ = some w) : zC (zY0 sc) 3 0 0 mX3_putInto [.ref 2, .ref (rp b1 + 0), .ref 4] (zE σ) (none, zE w) := zC.of (by decide +kernel) (Nat.le_of_ble_eq_true rfl) rfl (eX3_putInto b1 σ w h)
theorem dX10_goOn_0 : decode cX10_goOn 0 = .ok (.aload_n 0, 1) := by decide +kernel
theorem dX10_goOn_1 : decode cX10_goOn 1 = .ok (.getfield 12, 3) := by decide +kernel
theorem dX10_goOn_4 : decode cX10_goOn 4 = .ok (.aload_n 0, 1) := by decide +kernel
theorem dX10_goOn_5 : decode cX10_goOn 5 = .ok (.getfield 38, 3) := by decide +kernel
theorem dX10_goOn_8 : decode cX10_goOn 8 = .ok (.getfield 111, 3) := by decide +kernel
theorem dX10_goOn_11 : decode cX10_goOn 11 = .ok (.invokestatic 314, 3) := by decide +kernel
theorem dX10_goOn_14 : decode cX10_goOn 14 = .ok (.istore_n 1, 1) := by decide +kernel
theorem dX10_goOn_15 : decode cX10_goOn 15 = .ok (.iload_n 1, 1) := by decide +kernel
theorem dX10_goOn_16 : decode cX10_goOn 16 = .ok (.ifCond .eq 39, 3) := by decide +kernel
theorem dX10_goOn_19 : decode cX10_goOn 19 = .ok (.aload_n 0, 1) := by decide +kernel
theorem dX10_goOn_20 : decode cX10_goOn 20 = .ok (.getfield 12, 3) := by decide +kernel
theorem dX10_goOn_23 : decode cX10_goOn 23 = .ok (.aload_n 0, 1) := by decide +kernel
theorem dX10_goOn_24 : decode cX10_goOn 24 = .ok (.getfield 38, 3) := by decide +kernel
theorem dX10_goOn_27 : decode cX10_goOn 27 = .ok (.getfield 111, 3) := by decide +kernel
theorem dX10_goOn_30 : decode cX10_goOn 30 = .ok (.aload_n 0, 1) := by decide +kernel
theorem dX10_goOn_31 : decode cX10_goOn 31 = .ok (.getfield 19, 3) := by decide +kernel
theorem dX10_goOn_34 : decode cX10_goOn 34 = .ok (.invokestatic 318, 3) := by decide +kernel
theorem dX10_goOn_37 : decode cX10_goOn 37 = .ok (.aload_n 0, 1) := by decide +kernel
theorem dX10_goOn_38 : decode cX10_goOn 38 = .ok (.getfield 26, 3) := by decide +kernel
theorem dX10_goOn_41 : decode cX10_goOn 41 = .ok (.iconst 0, 1) := by decide +kernel
theorem dX10_goOn_42 : decode cX10_goOn 42 = .ok (.putfield 115, 3) := by decide +kernel
theorem dX10_goOn_45 : decode cX10_goOn 45 = .ok (.aload_n 0, 1) := by decide +kernel
theorem dX10_goOn_46 : decode cX10_goOn 46 = .ok (.getfield 47, 3) := by decide +kernel
theorem dX10_goOn_49 : decode cX10_goOn 49 = .ok (.invokevirtual 119, 3) := by decide +kernel
theorem dX10_goOn_52 : decode cX10_goOn 52 = .ok (.goto 9, 3) := by decide +kernel
theorem dX10_goOn_55 : decode cX10_goOn 55 = .ok (.aload_n 0, 1) := by decide +kernel
theorem dX10_goOn_56 : decode cX10_goOn 56 = .ok (.iconst 4, 1) := by decide +kernel
theorem dX10_goOn_57 : decode cX10_goOn 57 = .ok (.invokevirtual 89, 3) := by decide +kernel
theorem dX10_goOn_60 : decode cX10_goOn 60 = .ok (.pop, 1) := by decide +kernel
theorem dX10_goOn_61 : decode cX10_goOn 61 = .ok (.aload_n 0, 1) := by decide +kernel
theorem dX10_goOn_62 : decode cX10_goOn 62 = .ok (.getfield 12, 3) := by decide +kernel
theorem dX10_goOn_65 : decode cX10_goOn 65 = .ok (.iconst 0, 1) := by decide +kernel
theorem dX10_goOn_66 : decode cX10_goOn 66 = .ok (.putfield 86, 3) := by decide +kernel
theorem dX10_goOn_69 : decode cX10_goOn 69 = .ok (.iload_n 1, 1) := by decide +kernel
theorem dX10_goOn_70 : decode cX10_goOn 70 = .ok (.ireturn, 1) := by decide +kernel
def fX10_goOn_61 (x1 : Int32) (σ : zS) : Option (Int32 × zS) := bnd (iS σ 2 1 0) fun σ6 => gd (x1 = 0 ∨ x1 = 1) (some (x1, σ6))
theorem kX10_goOn_61 {sc : Nat × (Nat → Int32)} (x1 : Int32) (σ : zS) (w : Int32 × zS) (h : fX10_goOn_61 x1 σ = some w) : zR (zY0 sc) 5 0 0 mX10_goOn 61 [(0, .ref 1), (1, .int x1)] [] (zE σ) (some (.int w.1), zE w.2) := by
  unfold fX10_goOn_61 at h
  refine kR.aload_n dX10_goOn_61 0 rfl ?_
  refine kR.getR (v := 2) dX10_goOn_62 flX10_12 zcf10 zp1 (Or.inl ⟨_, rfl⟩) rfl ?_
  refine zR.iconst (v := 0) dX10_goOn_65 (by decide) ?_
  refine kR.putI dX10_goOn_66 fpX10_86 zcf9 zp2 rfl h (fun σ6 h => ?_)
  refine kR.iload_n dX10_goOn_69 1 rfl ?_
  obtain ⟨gz, h⟩ := kR.guard h
  exact kR.iretW dX10_goOn_70 (nzZ rfl gz) h
def fX10_goOn (σ : zS) : Option (Int32 × zS) := bnr (fX3_isOf σ.2.2.2.1 σ) fun v1 => if v1 = 0 then bnc (fX10_refuse 4 σ) fun v5 σ3 => fX10_goOn_61 v1 σ3 else bnr (fX3_putInto σ.2.2.2.1 σ) fun σ7 => bnd (iS σ7 6 2 0) fun σ9 => bnr (fX0_forget σ9) fun σ10 => fX10_goOn_61 v1 σ10
theorem eX10_goOn {sc : Nat × (Nat → Int32)} (σ : zS) (w : Int32 × zS) (h : fX10_goOn σ = some w) : zR (zY0 sc) 5 0 0 mX10_goOn 0 [(0, .ref 1)] [] (zE σ) (some (.int w.1), zE w.2) := by
  unfold fX10_goOn at h
  refine kR.aload_n dX10_goOn_0 0 rfl ?_
  refine kR.getR (v := 2) dX10_goOn_1 flX10_12 zcf10 zp1 (Or.inl ⟨_, rfl⟩) rfl ?_
  refine kR.aload_n dX10_goOn_4 0 rfl ?_
  refine kR.getR (v := 8) dX10_goOn_5 flX10_38 zcf10 zp1 (Or.inl ⟨_, rfl⟩) rfl ?_
  refine kR.getR (v := (rp σ.2.2.2.1 + 0)) dX10_goOn_8 flX10_111 zcf4 zp8 (Or.inl ⟨_, rfl⟩) rfl ?_
  obtain ⟨v1, e2, h⟩ := bnr_some h
  refine kR.cSi [.ref 2, .ref (rp σ.2.2.2.1 + 0)] dX10_goOn_11 rfl (by decide) (Or.inl mwX10_314) rfl (Nat.le_of_ble_eq_true rfl) (lX3_isOf σ.2.2.2.1 σ _ e2) ?_
  refine zR.istore_n (i := 1) (ls' := [(1, .int v1), (0, .ref 1)]) dX10_goOn_14 rfl (by decide) rfl ?_
  refine kR.iload_n dX10_goOn_15 0 rfl ?_
  refine kR.if_eq (tgt := 55) dX10_goOn_16 (by decide) h (fun h => ?_) (fun h => ?_)
  · refine kR.aload_n dX10_goOn_55 1 rfl ?_
    refine zR.iconst (v := 4) dX10_goOn_56 (by decide) ?_
    obtain ⟨v5, σ3, e4, h⟩ := bnc_some h
    refine kR.cVi [.int 4] dX10_goOn_57 rfl (by decide) mwX10_89 zp1 (by decide) rfl rfl (Nat.le_of_ble_eq_true rfl) (lX10_refuse 4 σ _ e4) ?_
    refine zR.pop dX10_goOn_60 rfl ?_
    refine zR.sub [1, 0] rfl ?_
    exact kX10_goOn_61 _ _ _ h
  · refine kR.aload_n dX10_goOn_19 1 rfl ?_
    refine kR.getR (v := 2) dX10_goOn_20 flX10_12 zcf10 zp1 (Or.inl ⟨_, rfl⟩) rfl ?_
    refine kR.aload_n dX10_goOn_23 1 rfl ?_
    refine kR.getR (v := 8) dX10_goOn_24 flX10_38 zcf10 zp1 (Or.inl ⟨_, rfl⟩) rfl ?_
    refine kR.getR (v := (rp σ.2.2.2.1 + 0)) dX10_goOn_27 flX10_111 zcf4 zp8 (Or.inl ⟨_, rfl⟩) rfl ?_
    refine kR.aload_n dX10_goOn_30 1 rfl ?_
    refine kR.getR (v := 4) dX10_goOn_31 flX10_19 zcf10 zp1 (Or.inl ⟨_, rfl⟩) rfl ?_
    obtain ⟨σ7, e8, h⟩ := bnr_some h
    refine kR.cSv [.ref 2, .ref (rp σ.2.2.2.1 + 0), .ref 4] dX10_goOn_34 rfl (by decide) (Or.inl mwX10_318) rfl (Nat.le_of_ble_eq_true rfl) (lX3_putInto σ.2.2.2.1 σ _ e8) ?_
    refine kR.aload_n dX10_goOn_37 1 rfl ?_
    refine kR.getR (v := 6) dX10_goOn_38 flX10_26 zcf10 zp1 (Or.inl ⟨_, rfl⟩) rfl ?_
    refine zR.iconst (v := 0) dX10_goOn_41 (by decide) ?_
    refine kR.putI dX10_goOn_42 fpX10_115 zcf2 zp6 rfl h (fun σ9 h => ?_)
    refine kR.aload_n dX10_goOn_45 1 rfl ?_
    refine kR.getR (v := 27) dX10_goOn_46 flX10_47 zcf10 zp1 (Or.inl ⟨_, rfl⟩) rfl ?_
    obtain ⟨σ10, e11, h⟩ := bnr_some h
    refine kR.cVv [] dX10_goOn_49 rfl (by decide) mwX10_119 zp27 (by decide) rfl rfl (Nat.le_of_ble_eq_true rfl) (lX0_forget σ9 _ e11) ?_
    refine zR.goto (tgt := 61) dX10_goOn_52 (by decide) ?_
    refine zR.sub [1, 0] rfl ?_
    exact kX10_goOn_61 _ _ _ h
theorem lX10_goOn {sc : Nat × (Nat → Int32)} (σ : zS) (w : Int32 × zS) (h : fX10_goOn σ = some w) : zC (zY0 sc) 5 0 0 mX10_goOn [.ref 1] (zE σ) (some (.int w.1), zE w.2) := zC.of (by decide +kernel) (Nat.le_of_ble_eq_true rfl) ⟨_, rfl⟩ (eX10_goOn σ w h)
theorem dX10_status_0 : decode cX10_status 0 = .ok (.iload_n 1, 1) := by decide +kernel
theorem dX10_status_1 : decode cX10_status 1 = .ok (.ifCond .lt 21, 3) := by decide +kernel
theorem dX10_status_4 : decode cX10_status 4 = .ok (.iload_n 1, 1) := by decide +kernel
theorem dX10_status_5 : decode cX10_status 5 = .ok (.aload_n 0, 1) := by decide +kernel
theorem dX10_status_6 : decode cX10_status 6 = .ok (.getfield 65, 3) := by decide +kernel
theorem dX10_status_9 : decode cX10_status 9 = .ok (.arraylength, 1) := by decide +kernel
theorem dX10_status_10 : decode cX10_status 10 = .ok (.if_icmp .ge 12, 3) := by decide +kernel
theorem dX10_status_13 : decode cX10_status 13 = .ok (.aload_n 0, 1) := by decide +kernel
theorem dX10_status_14 : decode cX10_status 14 = .ok (.getfield 65, 3) := by decide +kernel
theorem dX10_status_17 : decode cX10_status 17 = .ok (.iload_n 1, 1) := by decide +kernel
theorem dX10_status_18 : decode cX10_status 18 = .ok (.iaload, 1) := by decide +kernel
theorem dX10_status_19 : decode cX10_status 19 = .ok (.goto 4, 3) := by decide +kernel
theorem dX10_status_22 : decode cX10_status 22 = .ok (.iconst (-1), 1) := by decide +kernel
theorem dX10_status_23 : decode cX10_status 23 = .ok (.ireturn, 1) := by decide +kernel
def fX10_status (σ : zS) (p1 : Int32) : Option Int32 := if p1 < 0 then some ((-1)) else if 5 ≤ p1 then some ((-1)) else aI σ 37 5 p1 fun v1 => some v1
theorem eX10_status {sc : Nat × (Nat → Int32)} (σ : zS) (p1 : Int32) (w : Int32) (h : fX10_status σ p1 = some w) : zR (zY0 sc) 1 0 0 mX10_status 0 [(0, .ref 1), (1, .int p1)] [] (zE σ) (some (.int w), zE σ) := by
  unfold fX10_status at h
  refine kR.iload_n dX10_status_0 1 rfl ?_
  refine kR.if_lt (tgt := 22) dX10_status_1 (by decide) h (fun h => ?_) (fun h => ?_)
  · refine zR.iconst (v := (-1)) dX10_status_22 (by decide) ?_
    exact kR.iretO dX10_status_23 (nzI rfl _) h
  · refine kR.iload_n dX10_status_4 1 rfl ?_
    refine kR.aload_n dX10_status_5 0 rfl ?_
    refine kR.getR (v := 37) dX10_status_6 flX10_65 zcf10 zp1 (Or.inr ⟨_, rfl⟩) rfl ?_
    refine zR.alen (v := 5) dX10_status_9 (Or.inl zp37) rfl ?_
    refine kR.icmp_ge (tgt := 22) dX10_status_10 (by decide) h (fun h => ?_) (fun h => ?_)
    · refine zR.iconst (v := (-1)) dX10_status_22 (by decide) ?_
      exact kR.iretO dX10_status_23 (nzI rfl _) h
    · refine kR.aload_n dX10_status_13 0 rfl ?_
      refine kR.getR (v := 37) dX10_status_14 flX10_65 zcf10 zp1 (Or.inr ⟨_, rfl⟩) rfl ?_
      refine kR.iload_n dX10_status_17 1 rfl ?_
      refine kR.iald dX10_status_18 zp37 rfl h (fun v1 h => ?_)
      refine zR.goto (tgt := 23) dX10_status_19 (by decide) ?_
      exact kR.iretO dX10_status_23 (nzI rfl _) h
theorem lX10_status {sc : Nat × (Nat → Int32)} (σ : zS) (p1 : Int32) (w : Int32) (h : fX10_status σ p1 = some w) : zC (zY0 sc) 1 0 0 mX10_status [.ref 1, .int p1] (zE σ) (some (.int w), zE σ) := zC.of (by decide +kernel) (Nat.le_of_ble_eq_true rfl) ⟨_, rfl⟩ (eX10_status σ p1 w h)
theorem dX11_is_0 : decode cX11_is 0 = .ok (.iload_n 0, 1) := by decide +kernel
theorem dX11_is_1 : decode cX11_is 1 = .ok (.iload_n 1, 1) := by decide +kernel
theorem dX11_is_2 : decode cX11_is 2 = .ok (.if_icmp .lt 12, 3) := by decide +kernel
theorem dX11_is_5 : decode cX11_is 5 = .ok (.iload_n 0, 1) := by decide +kernel
theorem dX11_is_6 : decode cX11_is 6 = .ok (.iload_n 2, 1) := by decide +kernel
theorem dX11_is_7 : decode cX11_is 7 = .ok (.if_icmp .gt 7, 3) := by decide +kernel
theorem dX11_is_10 : decode cX11_is 10 = .ok (.iconst 1, 1) := by decide +kernel
theorem dX11_is_11 : decode cX11_is 11 = .ok (.goto 4, 3) := by decide +kernel
theorem dX11_is_14 : decode cX11_is 14 = .ok (.iconst 0, 1) := by decide +kernel
theorem dX11_is_15 : decode cX11_is 15 = .ok (.ireturn, 1) := by decide +kernel
def fX11_is (p0 : Int32) (p1 : Int32) (p2 : Int32) : Int32 := if p0 < p1 then 0 else if p2 < p0 then 0 else 1
theorem eX11_is {sc : Nat × (Nat → Int32)} {μ : zM} (p0 : Int32) (p1 : Int32) (p2 : Int32) (w : Int32) (h : fX11_is p0 p1 p2 = w) : zR (zY0 sc) 1 0 0 mX11_is 0 [(0, .int p0), (1, .int p1), (2, .int p2)] [] μ (some (.int w), μ) := by
  unfold fX11_is at h
  refine kR.iload_n dX11_is_0 0 rfl ?_
  refine kR.iload_n dX11_is_1 1 rfl ?_
  refine kR.icmp_lt (tgt := 14) dX11_is_2 (by decide) h (fun h => ?_) (fun h => ?_)
  · refine zR.iconst (v := 0) dX11_is_14 (by decide) ?_
    exact kR.iret dX11_is_15 (nzZ rfl (Or.inl rfl)) h
  · refine kR.iload_n dX11_is_5 0 rfl ?_
    refine kR.iload_n dX11_is_6 2 rfl ?_
    refine kR.icmp_gt (tgt := 14) dX11_is_7 (by decide) h (fun h => ?_) (fun h => ?_)
    · refine zR.iconst (v := 0) dX11_is_14 (by decide) ?_
      exact kR.iret dX11_is_15 (nzZ rfl (Or.inl rfl)) h
    · refine zR.iconst (v := 1) dX11_is_10 (by decide) ?_
      refine zR.goto (tgt := 15) dX11_is_11 (by decide) ?_
      exact kR.iret dX11_is_15 (nzZ rfl (Or.inr rfl)) h
theorem lX11_is {sc : Nat × (Nat → Int32)} {μ : zM} (p0 : Int32) (p1 : Int32) (p2 : Int32) : zC (zY0 sc) 1 0 0 mX11_is [.int p0, .int p1, .int p2] μ (some (.int (fX11_is p0 p1 p2)), μ) := zC.of (by decide +kernel) (Nat.le_of_ble_eq_true rfl) ⟨_, rfl⟩ (eX11_is p0 p1 p2 _ rfl)
theorem dX11_put_0 : decode cX11_put 0 = .ok (.bipush 24, 2) := by decide +kernel
theorem dX11_put_2 : decode cX11_put 2 = .ok (.istore_n 2, 1) := by decide +kernel
theorem dX11_put_3 : decode cX11_put 3 = .ok (.iload_n 2, 1) := by decide +kernel
theorem dX11_put_4 : decode cX11_put 4 = .ok (.ifCond .lt 35, 3) := by decide +kernel
theorem dX11_put_7 : decode cX11_put 7 = .ok (.aload_n 0, 1) := by decide +kernel
theorem dX11_put_8 : decode cX11_put 8 = .ok (.getfield 7, 3) := by decide +kernel
theorem dX11_put_11 : decode cX11_put 11 = .ok (.aload_n 0, 1) := by decide +kernel
theorem dX11_put_12 : decode cX11_put 12 = .ok (.getfield 13, 3) := by decide +kernel
theorem dX11_put_15 : decode cX11_put 15 = .ok (.iload_n 1, 1) := by decide +kernel
theorem dX11_put_16 : decode cX11_put 16 = .ok (.iload_n 2, 1) := by decide +kernel
theorem dX11_put_17 : decode cX11_put 17 = .ok (.ishr, 1) := by decide +kernel
theorem dX11_put_18 : decode cX11_put 18 = .ok (.sipush 255, 3) := by decide +kernel
theorem dX11_put_21 : decode cX11_put 21 = .ok (.iand, 1) := by decide +kernel
theorem dX11_put_22 : decode cX11_put 22 = .ok (.iastore, 1) := by decide +kernel
theorem dX11_put_23 : decode cX11_put 23 = .ok (.aload_n 0, 1) := by decide +kernel
theorem dX11_put_24 : decode cX11_put 24 = .ok (.dup, 1) := by decide +kernel
theorem dX11_put_25 : decode cX11_put 25 = .ok (.getfield 13, 3) := by decide +kernel
theorem dX11_put_28 : decode cX11_put 28 = .ok (.iconst 1, 1) := by decide +kernel
theorem dX11_put_29 : decode cX11_put 29 = .ok (.iadd, 1) := by decide +kernel
theorem dX11_put_30 : decode cX11_put 30 = .ok (.putfield 13, 3) := by decide +kernel
theorem dX11_put_33 : decode cX11_put 33 = .ok (.iinc 2 (-8), 3) := by decide +kernel
theorem dX11_put_36 : decode cX11_put 36 = .ok (.goto (-33), 3) := by decide +kernel
theorem dX11_put_39 : decode cX11_put 39 = .ok (.return_, 1) := by decide +kernel
def fX11_put_3 : Nat → Int32 → Int32 → zS → Option zS
  | 0, _, _, _ => none
  | f + 1, x1, x2, σ => if x2 < 0 then some σ else wI σ 57 1800 (iG σ 56 1) ((x1 >>> (x2 &&& 31)) &&& 255) fun σ1 => bnd (iS σ1 56 1 ((iG σ1 56 1) + 1)) fun σ2 => fX11_put_3 f x1 (x2 + (-8)) σ2
theorem kX11_put_3 {sc : Nat × (Nat → Int32)} : ∀ (fuel : Nat) (x1 : Int32) (x2 : Int32) (σ : zS) (w : zS) (h : fX11_put_3 fuel x1 x2 σ = some w), zR (zY0 sc) 1 0 0 mX11_put 3 [(0, .ref 56), (1, .int x1), (2, .int x2)] [] (zE σ) (none, zE w) := by
  intro fuel
  induction fuel with
  | zero => intro x1 x2 σ w h; exact nomatch h
  | succ f ih =>
    intro x1 x2 σ w h
    rw [fX11_put_3] at h
    refine kR.iload_n dX11_put_3 2 rfl ?_
    refine kR.if_lt (tgt := 39) dX11_put_4 (by decide) h (fun h => ?_) (fun h => ?_)
    · exact kR.vret dX11_put_39 h
    · refine kR.aload_n dX11_put_7 0 rfl ?_
      refine kR.getR (v := 57) dX11_put_8 flX11_7 zcf11 zp56 (Or.inr ⟨_, rfl⟩) rfl ?_
      refine kR.aload_n dX11_put_11 0 rfl ?_
      refine kR.getI dX11_put_12 flX11_13 zcf11 zp56 (Or.inl rfl) ?_
      refine kR.iload_n dX11_put_15 1 rfl ?_
      refine kR.iload_n dX11_put_16 2 rfl ?_
      refine zR.ishr dX11_put_17 ?_
      refine zR.sipush (v := 255) dX11_put_18 (by decide) ?_
      refine zR.iand dX11_put_21 ?_
      refine kR.iast dX11_put_22 zp57 rfl h (fun σ1 h => ?_)
      refine kR.aload_n dX11_put_23 0 rfl ?_
      refine zR.dup dX11_put_24 rfl ?_
      refine kR.getI dX11_put_25 flX11_13 zcf11 zp56 (Or.inl rfl) ?_
      refine zR.iconst (v := 1) dX11_put_28 (by decide) ?_
      refine zR.iadd dX11_put_29 ?_
      refine kR.putI dX11_put_30 fpX11_13 zcf11 zp56 rfl h (fun σ2 h => ?_)
      refine zR.iinc 2 (v := x2 + (-8)) (ls' := [(2, .int (x2 + (-8))), (0, .ref 56), (1, .int x1)]) dX11_put_33 rfl rfl (by decide) rfl ?_
      refine zR.goto (tgt := 3) dX11_put_36 (by decide) ?_
      refine zR.sub [1, 2, 0] rfl ?_
      exact ih _ _ _ _ h
def fX11_put (p1 : Int32) (σ : zS) : Option zS := fX11_put_3 zF p1 24 σ
theorem eX11_put {sc : Nat × (Nat → Int32)} (p1 : Int32) (σ : zS) (w : zS) (h : fX11_put p1 σ = some w) : zR (zY0 sc) 1 0 0 mX11_put 0 [(0, .ref 56), (1, .int p1)] [] (zE σ) (none, zE w) := by
  unfold fX11_put at h
  refine zR.bipush (v := 24) dX11_put_0 (by decide) ?_
  refine zR.istore_n (i := 2) (ls' := [(2, .int 24), (0, .ref 56), (1, .int p1)]) dX11_put_2 rfl (by decide) rfl ?_
  refine zR.sub [1, 2, 0] rfl ?_
  exact kX11_put_3 zF _ _ _ _ h
theorem lX11_put {sc : Nat × (Nat → Int32)} (p1 : Int32) (σ : zS) (w : zS) (h : fX11_put p1 σ = some w) : zC (zY0 sc) 1 0 0 mX11_put [.ref 56, .int p1] (zE σ) (none, zE w) := zC.of (by decide +kernel) (Nat.le_of_ble_eq_true rfl) rfl (eX11_put p1 σ w h)
theorem dX11_refuses_0 : decode cX11_refuses 0 = .ok (.aload_n 0, 1) := by decide +kernel
theorem dX11_refuses_1 : decode cX11_refuses 1 = .ok (.getfield 153, 3) := by decide +kernel
theorem dX11_refuses_4 : decode cX11_refuses 4 = .ok (.iload_n 1, 1) := by decide +kernel
theorem dX11_refuses_5 : decode cX11_refuses 5 = .ok (.dup2, 1) := by decide +kernel
theorem dX11_refuses_6 : decode cX11_refuses 6 = .ok (.iaload, 1) := by decide +kernel
theorem dX11_refuses_7 : decode cX11_refuses 7 = .ok (.iconst 1, 1) := by decide +kernel
theorem dX11_refuses_8 : decode cX11_refuses 8 = .ok (.iadd, 1) := by decide +kernel
theorem dX11_refuses_9 : decode cX11_refuses 9 = .ok (.iastore, 1) := by decide +kernel
theorem dX11_refuses_10 : decode cX11_refuses 10 = .ok (.iconst (-1), 1) := by decide +kernel
theorem dX11_refuses_11 : decode cX11_refuses 11 = .ok (.ireturn, 1) := by decide +kernel
def fX11_refuses (p1 : Int32) (σ : zS) : Option (Int32 × zS) := aI σ 84 5 p1 fun v1 => wI σ 84 5 p1 (v1 + 1) fun σ2 => some ((-1), σ2)
theorem eX11_refuses {sc : Nat × (Nat → Int32)} (p1 : Int32) (σ : zS) (w : Int32 × zS) (h : fX11_refuses p1 σ = some w) : zR (zY0 sc) 1 0 0 mX11_refuses 0 [(0, .ref 56), (1, .int p1)] [] (zE σ) (some (.int w.1), zE w.2) := by
  unfold fX11_refuses at h
  refine kR.aload_n dX11_refuses_0 0 rfl ?_
  refine kR.getR (v := 84) dX11_refuses_1 flX11_153 zcf11 zp56 (Or.inr ⟨_, rfl⟩) rfl ?_
  refine kR.iload_n dX11_refuses_4 1 rfl ?_
  refine zR.dup2 dX11_refuses_5 rfl rfl ?_
  refine kR.iald dX11_refuses_6 zp84 rfl h (fun v1 h => ?_)
  refine zR.iconst (v := 1) dX11_refuses_7 (by decide) ?_
  refine zR.iadd dX11_refuses_8 ?_
  refine kR.iast dX11_refuses_9 zp84 rfl h (fun σ2 h => ?_)
  refine zR.iconst (v := (-1)) dX11_refuses_10 (by decide) ?_
  exact kR.iretW dX11_refuses_11 (nzI rfl _) h
theorem lX11_refuses {sc : Nat × (Nat → Int32)} (p1 : Int32) (σ : zS) (w : Int32 × zS) (h : fX11_refuses p1 σ = some w) : zC (zY0 sc) 1 0 0 mX11_refuses [.ref 56, .int p1] (zE σ) (some (.int w.1), zE w.2) := zC.of (by decide +kernel) (Nat.le_of_ble_eq_true rfl) ⟨_, rfl⟩ (eX11_refuses p1 σ w h)
theorem dX11_feed_0 : decode cX11_feed 0 = .ok (.aload_n 0, 1) := by decide +kernel
theorem dX11_feed_1 : decode cX11_feed 1 = .ok (.getfield 13, 3) := by decide +kernel
theorem dX11_feed_4 : decode cX11_feed 4 = .ok (.bipush 20, 2) := by decide +kernel
theorem dX11_feed_6 : decode cX11_feed 6 = .ok (.iadd, 1) := by decide +kernel
theorem dX11_feed_7 : decode cX11_feed 7 = .ok (.sipush 1600, 3) := by decide +kernel
theorem dX11_feed_10 : decode cX11_feed 10 = .ok (.if_icmp .le 9, 3) := by decide +kernel
theorem dX11_feed_13 : decode cX11_feed 13 = .ok (.aload_n 0, 1) := by decide +kernel
theorem dX11_feed_14 : decode cX11_feed 14 = .ok (.iconst 0, 1) := by decide +kernel
theorem dX11_feed_15 : decode cX11_feed 15 = .ok (.invokevirtual 252, 3) := by decide +kernel
theorem dX11_feed_18 : decode cX11_feed 18 = .ok (.ireturn, 1) := by decide +kernel
theorem dX11_feed_19 : decode cX11_feed 19 = .ok (.aload_n 0, 1) := by decide +kernel
theorem dX11_feed_20 : decode cX11_feed 20 = .ok (.iload_n 1, 1) := by decide +kernel
theorem dX11_feed_21 : decode cX11_feed 21 = .ok (.invokevirtual 256, 3) := by decide +kernel
theorem dX11_feed_24 : decode cX11_feed 24 = .ok (.aload_n 0, 1) := by decide +kernel
theorem dX11_feed_25 : decode cX11_feed 25 = .ok (.iload_n 2, 1) := by decide +kernel
theorem dX11_feed_26 : decode cX11_feed 26 = .ok (.invokevirtual 256, 3) := by decide +kernel
theorem dX11_feed_29 : decode cX11_feed 29 = .ok (.aload_n 0, 1) := by decide +kernel
theorem dX11_feed_30 : decode cX11_feed 30 = .ok (.iload_n 3, 1) := by decide +kernel
theorem dX11_feed_31 : decode cX11_feed 31 = .ok (.invokevirtual 256, 3) := by decide +kernel
theorem dX11_feed_34 : decode cX11_feed 34 = .ok (.aload_n 0, 1) := by decide +kernel
theorem dX11_feed_35 : decode cX11_feed 35 = .ok (.iload 4, 2) := by decide +kernel
theorem dX11_feed_37 : decode cX11_feed 37 = .ok (.invokevirtual 256, 3) := by decide +kernel
theorem dX11_feed_40 : decode cX11_feed 40 = .ok (.aload_n 0, 1) := by decide +kernel
theorem dX11_feed_41 : decode cX11_feed 41 = .ok (.iload 5, 2) := by decide +kernel
theorem dX11_feed_43 : decode cX11_feed 43 = .ok (.invokevirtual 256, 3) := by decide +kernel
theorem dX11_feed_46 : decode cX11_feed 46 = .ok (.aload_n 0, 1) := by decide +kernel
theorem dX11_feed_47 : decode cX11_feed 47 = .ok (.getfield 13, 3) := by decide +kernel
theorem dX11_feed_50 : decode cX11_feed 50 = .ok (.ireturn, 1) := by decide +kernel
def fX11_feed (p1 : Int32) (p2 : Int32) (p3 : Int32) (p4 : Int32) (p5 : Int32) (σ : zS) : Option (Int32 × zS) := if ((iG σ 56 1) + 20) ≤ 1600 then bnr (fX11_put p1 σ) fun σ1 => bnr (fX11_put p2 σ1) fun σ3 => bnr (fX11_put p3 σ3) fun σ5 => bnr (fX11_put p4 σ5) fun σ7 => bnr (fX11_put p5 σ7) fun σ9 => some (iG σ9 56 1, σ9) else bnc (fX11_refuses 0 σ) fun v13 σ11 => some (v13, σ11)
theorem eX11_feed {sc : Nat × (Nat → Int32)} (p1 : Int32) (p2 : Int32) (p3 : Int32) (p4 : Int32) (p5 : Int32) (σ : zS) (w : Int32 × zS) (h : fX11_feed p1 p2 p3 p4 p5 σ = some w) : zR (zY0 sc) 2 0 0 mX11_feed 0 [(0, .ref 56), (1, .int p1), (2, .int p2), (3, .int p3), (4, .int p4), (5, .int p5)] [] (zE σ) (some (.int w.1), zE w.2) := by
  unfold fX11_feed at h
  refine kR.aload_n dX11_feed_0 0 rfl ?_
  refine kR.getI dX11_feed_1 flX11_13 zcf11 zp56 (Or.inl rfl) ?_
  refine zR.bipush (v := 20) dX11_feed_4 (by decide) ?_
  refine zR.iadd dX11_feed_6 ?_
  refine zR.sipush (v := 1600) dX11_feed_7 (by decide) ?_
  refine kR.icmp_le (tgt := 19) dX11_feed_10 (by decide) h (fun h => ?_) (fun h => ?_)
  · refine kR.aload_n dX11_feed_19 0 rfl ?_
    refine kR.iload_n dX11_feed_20 1 rfl ?_
    obtain ⟨σ1, e2, h⟩ := bnr_some h
    refine kR.cVv [.int p1] dX11_feed_21 rfl (by decide) mwX11_256 zp56 (by decide) rfl rfl (Nat.le_of_ble_eq_true rfl) (lX11_put p1 σ _ e2) ?_
    refine kR.aload_n dX11_feed_24 0 rfl ?_
    refine kR.iload_n dX11_feed_25 2 rfl ?_
    obtain ⟨σ3, e4, h⟩ := bnr_some h
    refine kR.cVv [.int p2] dX11_feed_26 rfl (by decide) mwX11_256 zp56 (by decide) rfl rfl (Nat.le_of_ble_eq_true rfl) (lX11_put p2 σ1 _ e4) ?_
    refine kR.aload_n dX11_feed_29 0 rfl ?_
    refine kR.iload_n dX11_feed_30 3 rfl ?_
    obtain ⟨σ5, e6, h⟩ := bnr_some h
    refine kR.cVv [.int p3] dX11_feed_31 rfl (by decide) mwX11_256 zp56 (by decide) rfl rfl (Nat.le_of_ble_eq_true rfl) (lX11_put p3 σ3 _ e6) ?_
    refine kR.aload_n dX11_feed_34 0 rfl ?_
    refine kR.iload dX11_feed_35 4 rfl ?_
    obtain ⟨σ7, e8, h⟩ := bnr_some h
    refine kR.cVv [.int p4] dX11_feed_37 rfl (by decide) mwX11_256 zp56 (by decide) rfl rfl (Nat.le_of_ble_eq_true rfl) (lX11_put p4 σ5 _ e8) ?_
    refine kR.aload_n dX11_feed_40 0 rfl ?_
    refine kR.iload dX11_feed_41 5 rfl ?_
    obtain ⟨σ9, e10, h⟩ := bnr_some h
    refine kR.cVv [.int p5] dX11_feed_43 rfl (by decide) mwX11_256 zp56 (by decide) rfl rfl (Nat.le_of_ble_eq_true rfl) (lX11_put p5 σ7 _ e10) ?_
    refine kR.aload_n dX11_feed_46 0 rfl ?_
    refine kR.getI dX11_feed_47 flX11_13 zcf11 zp56 (Or.inl rfl) ?_
    exact kR.iretW dX11_feed_50 (nzI rfl _) h
  · refine kR.aload_n dX11_feed_13 0 rfl ?_
    refine zR.iconst (v := 0) dX11_feed_14 (by decide) ?_
    obtain ⟨v13, σ11, e12, h⟩ := bnc_some h
    refine kR.cVi [.int 0] dX11_feed_15 rfl (by decide) mwX11_252 zp56 (by decide) rfl rfl (Nat.le_of_ble_eq_true rfl) (lX11_refuses 0 σ _ e12) ?_
    exact kR.iretW dX11_feed_18 (nzI rfl _) h
theorem lX11_feed {sc : Nat × (Nat → Int32)} (p1 : Int32) (p2 : Int32) (p3 : Int32) (p4 : Int32) (p5 : Int32) (σ : zS) (w : Int32 × zS) (h : fX11_feed p1 p2 p3 p4 p5 σ = some w) : zC (zY0 sc) 2 0 0 mX11_feed [.ref 56, .int p1, .int p2, .int p3, .int p4, .int p5] (zE σ) (some (.int w.1), zE w.2) := zC.of (by decide +kernel) (Nat.le_of_ble_eq_true rfl) ⟨_, rfl⟩ (eX11_feed p1 p2 p3 p4 p5 σ w h)
theorem dX11_end_0 : decode cX11_end 0 = .ok (.iload_n 1, 1) := by decide +kernel
theorem dX11_end_1 : decode cX11_end 1 = .ok (.ifCond .lt 11, 3) := by decide +kernel
theorem dX11_end_4 : decode cX11_end 4 = .ok (.iload_n 1, 1) := by decide +kernel
theorem dX11_end_5 : decode cX11_end 5 = .ok (.aload_n 0, 1) := by decide +kernel
theorem dX11_end_6 : decode cX11_end 6 = .ok (.getfield 13, 3) := by decide +kernel
theorem dX11_end_9 : decode cX11_end 9 = .ok (.if_icmp .le 17, 3) := by decide +kernel
theorem dX11_end_12 : decode cX11_end 12 = .ok (.aload_n 0, 1) := by decide +kernel
theorem dX11_end_13 : decode cX11_end 13 = .ok (.iconst 0, 1) := by decide +kernel
theorem dX11_end_14 : decode cX11_end 14 = .ok (.invokevirtual 252, 3) := by decide +kernel
theorem dX11_end_17 : decode cX11_end 17 = .ok (.ifCond .lt 7, 3) := by decide +kernel
theorem dX11_end_20 : decode cX11_end 20 = .ok (.iconst 1, 1) := by decide +kernel
theorem dX11_end_21 : decode cX11_end 21 = .ok (.goto 4, 3) := by decide +kernel
theorem dX11_end_24 : decode cX11_end 24 = .ok (.iconst 0, 1) := by decide +kernel
theorem dX11_end_25 : decode cX11_end 25 = .ok (.ireturn, 1) := by decide +kernel
theorem dX11_end_26 : decode cX11_end 26 = .ok (.aload_n 0, 1) := by decide +kernel
theorem dX11_end_27 : decode cX11_end 27 = .ok (.iload_n 1, 1) := by decide +kernel
theorem dX11_end_28 : decode cX11_end 28 = .ok (.putfield 13, 3) := by decide +kernel
theorem dX11_end_31 : decode cX11_end 31 = .ok (.iconst 1, 1) := by decide +kernel
theorem dX11_end_32 : decode cX11_end 32 = .ok (.ireturn, 1) := by decide +kernel
def fX11_end_12 (σ : zS) : Option (Int32 × zS) := bnc (fX11_refuses 0 σ) fun v3 σ1 => if v3 < 0 then some (0, σ1) else some (1, σ1)
theorem kX11_end_12 {sc : Nat × (Nat → Int32)} (σ : zS) (w : Int32 × zS) (h : fX11_end_12 σ = some w) : zR (zY0 sc) 2 0 0 mX11_end 12 [(0, .ref 56)] [] (zE σ) (some (.int w.1), zE w.2) := by
  unfold fX11_end_12 at h
  refine kR.aload_n dX11_end_12 0 rfl ?_
  refine zR.iconst (v := 0) dX11_end_13 (by decide) ?_
  obtain ⟨v3, σ1, e2, h⟩ := bnc_some h
  refine kR.cVi [.int 0] dX11_end_14 rfl (by decide) mwX11_252 zp56 (by decide) rfl rfl (Nat.le_of_ble_eq_true rfl) (lX11_refuses 0 σ _ e2) ?_
  refine kR.if_lt (tgt := 24) dX11_end_17 (by decide) h (fun h => ?_) (fun h => ?_)
  · refine zR.iconst (v := 0) dX11_end_24 (by decide) ?_
    exact kR.iretW dX11_end_25 (nzZ rfl (Or.inl rfl)) h
  · refine zR.iconst (v := 1) dX11_end_20 (by decide) ?_
    refine zR.goto (tgt := 25) dX11_end_21 (by decide) ?_
    exact kR.iretW dX11_end_25 (nzZ rfl (Or.inr rfl)) h
def fX11_end (p1 : Int32) (σ : zS) : Option (Int32 × zS) := if p1 < 0 then fX11_end_12 σ else if p1 ≤ (iG σ 56 1) then bnd (iS σ 56 1 p1) fun σ4 => some (1, σ4) else fX11_end_12 σ
theorem eX11_end {sc : Nat × (Nat → Int32)} (p1 : Int32) (σ : zS) (w : Int32 × zS) (h : fX11_end p1 σ = some w) : zR (zY0 sc) 2 0 0 mX11_end 0 [(0, .ref 56), (1, .int p1)] [] (zE σ) (some (.int w.1), zE w.2) := by
  unfold fX11_end at h
  refine kR.iload_n dX11_end_0 1 rfl ?_
  refine kR.if_lt (tgt := 12) dX11_end_1 (by decide) h (fun h => ?_) (fun h => ?_)
  · refine zR.sub [0] rfl ?_
    exact kX11_end_12 _ _ h
  · refine kR.iload_n dX11_end_4 1 rfl ?_
    refine kR.aload_n dX11_end_5 0 rfl ?_
    refine kR.getI dX11_end_6 flX11_13 zcf11 zp56 (Or.inl rfl) ?_
    refine kR.icmp_le (tgt := 26) dX11_end_9 (by decide) h (fun h => ?_) (fun h => ?_)
    · refine kR.aload_n dX11_end_26 0 rfl ?_
      refine kR.iload_n dX11_end_27 1 rfl ?_
      refine kR.putI dX11_end_28 fpX11_13 zcf11 zp56 rfl h (fun σ4 h => ?_)
      refine zR.iconst (v := 1) dX11_end_31 (by decide) ?_
      exact kR.iretW dX11_end_32 (nzZ rfl (Or.inr rfl)) h
    · refine zR.sub [0] rfl ?_
      exact kX11_end_12 _ _ h
theorem lX11_end {sc : Nat × (Nat → Int32)} (p1 : Int32) (σ : zS) (w : Int32 × zS) (h : fX11_end p1 σ = some w) : zC (zY0 sc) 2 0 0 mX11_end [.ref 56, .int p1] (zE σ) (some (.int w.1), zE w.2) := zC.of (by decide +kernel) (Nat.le_of_ble_eq_true rfl) ⟨_, rfl⟩ (eX11_end p1 σ w h)
theorem dX11_blame_0 : decode cX11_blame 0 = .ok (.aload_n 0, 1) := by decide +kernel
theorem dX11_blame_1 : decode cX11_blame 1 = .ok (.getfield 36, 3) := by decide +kernel
theorem dX11_blame_4 : decode cX11_blame 4 = .ok (.ifCond .le 4, 3) := by decide +kernel
theorem dX11_blame_7 : decode cX11_blame 7 = .ok (.return_, 1) := by decide +kernel
theorem dX11_blame_8 : decode cX11_blame 8 = .ok (.aload_n 0, 1) := by decide +kernel
theorem dX11_blame_9 : decode cX11_blame 9 = .ok (.iload_n 1, 1) := by decide +kernel
theorem dX11_blame_10 : decode cX11_blame 10 = .ok (.putfield 36, 3) := by decide +kernel
theorem dX11_blame_13 : decode cX11_blame 13 = .ok (.aload_n 0, 1) := by decide +kernel
theorem dX11_blame_14 : decode cX11_blame 14 = .ok (.iload_n 2, 1) := by decide +kernel
theorem dX11_blame_15 : decode cX11_blame 15 = .ok (.putfield 39, 3) := by decide +kernel
theorem dX11_blame_18 : decode cX11_blame 18 = .ok (.return_, 1) := by decide +kernel
def fX11_blame (p1 : Int32) (p2 : Int32) (σ : zS) : Option zS := if (iG σ 56 8) ≤ 0 then bnd (iS σ 56 8 p1) fun σ1 => bnd (iS σ1 56 9 p2) fun σ2 => some σ2 else some σ
theorem eX11_blame {sc : Nat × (Nat → Int32)} (p1 : Int32) (p2 : Int32) (σ : zS) (w : zS) (h : fX11_blame p1 p2 σ = some w) : zR (zY0 sc) 1 0 0 mX11_blame 0 [(0, .ref 56), (1, .int p1), (2, .int p2)] [] (zE σ) (none, zE w) := by
  unfold fX11_blame at h
  refine kR.aload_n dX11_blame_0 0 rfl ?_
  refine kR.getI dX11_blame_1 flX11_36 zcf11 zp56 (Or.inl rfl) ?_
  refine kR.if_le (tgt := 8) dX11_blame_4 (by decide) h (fun h => ?_) (fun h => ?_)
  · refine kR.aload_n dX11_blame_8 0 rfl ?_
    refine kR.iload_n dX11_blame_9 1 rfl ?_
    refine kR.putI dX11_blame_10 fpX11_36 zcf11 zp56 rfl h (fun σ1 h => ?_)
    refine kR.aload_n dX11_blame_13 0 rfl ?_
    refine kR.iload_n dX11_blame_14 2 rfl ?_
    refine kR.putI dX11_blame_15 fpX11_39 zcf11 zp56 rfl h (fun σ2 h => ?_)
    exact kR.vret dX11_blame_18 h
  · exact kR.vret dX11_blame_7 h
theorem lX11_blame {sc : Nat × (Nat → Int32)} (p1 : Int32) (p2 : Int32) (σ : zS) (w : zS) (h : fX11_blame p1 p2 σ = some w) : zC (zY0 sc) 1 0 0 mX11_blame [.ref 56, .int p1, .int p2] (zE σ) (none, zE w) := zC.of (by decide +kernel) (Nat.le_of_ble_eq_true rfl) rfl (eX11_blame p1 p2 σ w h)
theorem dX11_isLetter_0 : decode cX11_isLetter 0 = .ok (.iload_n 0, 1) := by decide +kernel
theorem dX11_isLetter_1 : decode cX11_isLetter 1 = .ok (.bipush 97, 2) := by decide +kernel
theorem dX11_isLetter_3 : decode cX11_isLetter 3 = .ok (.if_icmp .lt 13, 3) := by decide +kernel
theorem dX11_isLetter_6 : decode cX11_isLetter 6 = .ok (.iload_n 0, 1) := by decide +kernel
theorem dX11_isLetter_7 : decode cX11_isLetter 7 = .ok (.bipush 122, 2) := by decide +kernel
theorem dX11_isLetter_9 : decode cX11_isLetter 9 = .ok (.if_icmp .gt 7, 3) := by decide +kernel
theorem dX11_isLetter_12 : decode cX11_isLetter 12 = .ok (.iconst 1, 1) := by decide +kernel
theorem dX11_isLetter_13 : decode cX11_isLetter 13 = .ok (.goto 4, 3) := by decide +kernel
theorem dX11_isLetter_16 : decode cX11_isLetter 16 = .ok (.iconst 0, 1) := by decide +kernel
theorem dX11_isLetter_17 : decode cX11_isLetter 17 = .ok (.ireturn, 1) := by decide +kernel
def fX11_isLetter (p0 : Int32) : Int32 := if p0 < 97 then 0 else if 122 < p0 then 0 else 1
theorem eX11_isLetter {sc : Nat × (Nat → Int32)} {μ : zM} (p0 : Int32) (w : Int32) (h : fX11_isLetter p0 = w) : zR (zY0 sc) 1 0 0 mX11_isLetter 0 [(0, .int p0)] [] μ (some (.int w), μ) := by
  unfold fX11_isLetter at h
  refine kR.iload_n dX11_isLetter_0 0 rfl ?_
  refine zR.bipush (v := 97) dX11_isLetter_1 (by decide) ?_
  refine kR.icmp_lt (tgt := 16) dX11_isLetter_3 (by decide) h (fun h => ?_) (fun h => ?_)
  · refine zR.iconst (v := 0) dX11_isLetter_16 (by decide) ?_
    exact kR.iret dX11_isLetter_17 (nzZ rfl (Or.inl rfl)) h
  · refine kR.iload_n dX11_isLetter_6 0 rfl ?_
    refine zR.bipush (v := 122) dX11_isLetter_7 (by decide) ?_
    refine kR.icmp_gt (tgt := 16) dX11_isLetter_9 (by decide) h (fun h => ?_) (fun h => ?_)
    · refine zR.iconst (v := 0) dX11_isLetter_16 (by decide) ?_
      exact kR.iret dX11_isLetter_17 (nzZ rfl (Or.inl rfl)) h
    · refine zR.iconst (v := 1) dX11_isLetter_12 (by decide) ?_
      refine zR.goto (tgt := 17) dX11_isLetter_13 (by decide) ?_
      exact kR.iret dX11_isLetter_17 (nzZ rfl (Or.inr rfl)) h
theorem lX11_isLetter {sc : Nat × (Nat → Int32)} {μ : zM} (p0 : Int32) : zC (zY0 sc) 1 0 0 mX11_isLetter [.int p0] μ (some (.int (fX11_isLetter p0)), μ) := zC.of (by decide +kernel) (Nat.le_of_ble_eq_true rfl) ⟨_, rfl⟩ (eX11_isLetter p0 _ rfl)
theorem dX11_isDigit_0 : decode cX11_isDigit 0 = .ok (.iload_n 0, 1) := by decide +kernel
theorem dX11_isDigit_1 : decode cX11_isDigit 1 = .ok (.bipush 48, 2) := by decide +kernel
theorem dX11_isDigit_3 : decode cX11_isDigit 3 = .ok (.if_icmp .lt 13, 3) := by decide +kernel
theorem dX11_isDigit_6 : decode cX11_isDigit 6 = .ok (.iload_n 0, 1) := by decide +kernel
theorem dX11_isDigit_7 : decode cX11_isDigit 7 = .ok (.bipush 57, 2) := by decide +kernel
theorem dX11_isDigit_9 : decode cX11_isDigit 9 = .ok (.if_icmp .gt 7, 3) := by decide +kernel
theorem dX11_isDigit_12 : decode cX11_isDigit 12 = .ok (.iconst 1, 1) := by decide +kernel
theorem dX11_isDigit_13 : decode cX11_isDigit 13 = .ok (.goto 4, 3) := by decide +kernel
theorem dX11_isDigit_16 : decode cX11_isDigit 16 = .ok (.iconst 0, 1) := by decide +kernel
theorem dX11_isDigit_17 : decode cX11_isDigit 17 = .ok (.ireturn, 1) := by decide +kernel
def fX11_isDigit (p0 : Int32) : Int32 := if p0 < 48 then 0 else if 57 < p0 then 0 else 1
theorem eX11_isDigit {sc : Nat × (Nat → Int32)} {μ : zM} (p0 : Int32) (w : Int32) (h : fX11_isDigit p0 = w) : zR (zY0 sc) 1 0 0 mX11_isDigit 0 [(0, .int p0)] [] μ (some (.int w), μ) := by
  unfold fX11_isDigit at h
  refine kR.iload_n dX11_isDigit_0 0 rfl ?_
  refine zR.bipush (v := 48) dX11_isDigit_1 (by decide) ?_
  refine kR.icmp_lt (tgt := 16) dX11_isDigit_3 (by decide) h (fun h => ?_) (fun h => ?_)
  · refine zR.iconst (v := 0) dX11_isDigit_16 (by decide) ?_
    exact kR.iret dX11_isDigit_17 (nzZ rfl (Or.inl rfl)) h
  · refine kR.iload_n dX11_isDigit_6 0 rfl ?_
    refine zR.bipush (v := 57) dX11_isDigit_7 (by decide) ?_
    refine kR.icmp_gt (tgt := 16) dX11_isDigit_9 (by decide) h (fun h => ?_) (fun h => ?_)
    · refine zR.iconst (v := 0) dX11_isDigit_16 (by decide) ?_
      exact kR.iret dX11_isDigit_17 (nzZ rfl (Or.inl rfl)) h
    · refine zR.iconst (v := 1) dX11_isDigit_12 (by decide) ?_
      refine zR.goto (tgt := 17) dX11_isDigit_13 (by decide) ?_
      exact kR.iret dX11_isDigit_17 (nzZ rfl (Or.inr rfl)) h
theorem lX11_isDigit {sc : Nat × (Nat → Int32)} {μ : zM} (p0 : Int32) : zC (zY0 sc) 1 0 0 mX11_isDigit [.int p0] μ (some (.int (fX11_isDigit p0)), μ) := zC.of (by decide +kernel) (Nat.le_of_ble_eq_true rfl) ⟨_, rfl⟩ (eX11_isDigit p0 _ rfl)
theorem dX11_lex_0 : decode cX11_lex 0 = .ok (.aload_n 0, 1) := by decide +kernel
theorem dX11_lex_1 : decode cX11_lex 1 = .ok (.getfield 48, 3) := by decide +kernel
theorem dX11_lex_4 : decode cX11_lex 4 = .ok (.iconst (-1), 1) := by decide +kernel
theorem dX11_lex_5 : decode cX11_lex 5 = .ok (.if_icmp .eq 12, 3) := by decide +kernel
theorem dX11_lex_8 : decode cX11_lex 8 = .ok (.aload_n 0, 1) := by decide +kernel
theorem dX11_lex_9 : decode cX11_lex 9 = .ok (.iconst 1, 1) := by decide +kernel
theorem dX11_lex_10 : decode cX11_lex 10 = .ok (.aload_n 0, 1) := by decide +kernel
theorem dX11_lex_11 : decode cX11_lex 11 = .ok (.getfield 48, 3) := by decide +kernel
theorem dX11_lex_14 : decode cX11_lex 14 = .ok (.invokevirtual 260, 3) := by decide +kernel
theorem dX11_lex_17 : decode cX11_lex 17 = .ok (.return_, 1) := by decide +kernel
def fX11_lex (σ : zS) : Option zS := if (iG σ 56 12) = ((-1)) then some σ else bnr (fX11_blame 1 (iG σ 56 12) σ) fun σ1 => some σ1
theorem eX11_lex {sc : Nat × (Nat → Int32)} (σ : zS) (w : zS) (h : fX11_lex σ = some w) : zR (zY0 sc) 2 0 0 mX11_lex 0 [(0, .ref 56)] [] (zE σ) (none, zE w) := by
  unfold fX11_lex at h
  refine kR.aload_n dX11_lex_0 0 rfl ?_
  refine kR.getI dX11_lex_1 flX11_48 zcf11 zp56 (Or.inl rfl) ?_
  refine zR.iconst (v := (-1)) dX11_lex_4 (by decide) ?_
  refine kR.icmp_eq (tgt := 17) dX11_lex_5 (by decide) h (fun h => ?_) (fun h => ?_)
  · exact kR.vret dX11_lex_17 h
  · refine kR.aload_n dX11_lex_8 0 rfl ?_
    refine zR.iconst (v := 1) dX11_lex_9 (by decide) ?_
    refine kR.aload_n dX11_lex_10 0 rfl ?_
    refine kR.getI dX11_lex_11 flX11_48 zcf11 zp56 (Or.inl rfl) ?_
    obtain ⟨σ1, e2, h⟩ := bnr_some h
    refine kR.cVv [.int 1, .int (iG σ 56 12)] dX11_lex_14 rfl (by decide) mwX11_260 zp56 (by decide) rfl rfl (Nat.le_of_ble_eq_true rfl) (lX11_blame 1 (iG σ 56 12) σ _ e2) ?_
    exact kR.vret dX11_lex_17 h
theorem lX11_lex {sc : Nat × (Nat → Int32)} (σ : zS) (w : zS) (h : fX11_lex σ = some w) : zC (zY0 sc) 2 0 0 mX11_lex [.ref 56] (zE σ) (none, zE w) := zC.of (by decide +kernel) (Nat.le_of_ble_eq_true rfl) rfl (eX11_lex σ w h)
theorem dX11_ahead_0 : decode cX11_ahead 0 = .ok (.aload_n 0, 1) := by decide +kernel
theorem dX11_ahead_1 : decode cX11_ahead 1 = .ok (.getfield 26, 3) := by decide +kernel
theorem dX11_ahead_4 : decode cX11_ahead 4 = .ok (.istore_n 1, 1) := by decide +kernel
theorem dX11_ahead_5 : decode cX11_ahead 5 = .ok (.iload_n 1, 1) := by decide +kernel
theorem dX11_ahead_6 : decode cX11_ahead 6 = .ok (.aload_n 0, 1) := by decide +kernel
theorem dX11_ahead_7 : decode cX11_ahead 7 = .ok (.getfield 17, 3) := by decide +kernel
theorem dX11_ahead_10 : decode cX11_ahead 10 = .ok (.if_icmp .ge 31, 3) := by decide +kernel
theorem dX11_ahead_13 : decode cX11_ahead 13 = .ok (.aload_n 0, 1) := by decide +kernel
theorem dX11_ahead_14 : decode cX11_ahead 14 = .ok (.getfield 7, 3) := by decide +kernel
theorem dX11_ahead_17 : decode cX11_ahead 17 = .ok (.iload_n 1, 1) := by decide +kernel
theorem dX11_ahead_18 : decode cX11_ahead 18 = .ok (.iaload, 1) := by decide +kernel
theorem dX11_ahead_19 : decode cX11_ahead 19 = .ok (.bipush 32, 2) := by decide +kernel
theorem dX11_ahead_21 : decode cX11_ahead 21 = .ok (.if_icmp .eq 14, 3) := by decide +kernel
theorem dX11_ahead_24 : decode cX11_ahead 24 = .ok (.aload_n 0, 1) := by decide +kernel
theorem dX11_ahead_25 : decode cX11_ahead 25 = .ok (.getfield 7, 3) := by decide +kernel
theorem dX11_ahead_28 : decode cX11_ahead 28 = .ok (.iload_n 1, 1) := by decide +kernel
theorem dX11_ahead_29 : decode cX11_ahead 29 = .ok (.iaload, 1) := by decide +kernel
theorem dX11_ahead_30 : decode cX11_ahead 30 = .ok (.bipush 10, 2) := by decide +kernel
theorem dX11_ahead_32 : decode cX11_ahead 32 = .ok (.if_icmp .ne 9, 3) := by decide +kernel
theorem dX11_ahead_35 : decode cX11_ahead 35 = .ok (.iinc 1 1, 3) := by decide +kernel
theorem dX11_ahead_38 : decode cX11_ahead 38 = .ok (.goto (-33), 3) := by decide +kernel
theorem dX11_ahead_41 : decode cX11_ahead 41 = .ok (.aload_n 0, 1) := by decide +kernel
theorem dX11_ahead_42 : decode cX11_ahead 42 = .ok (.iload_n 1, 1) := by decide +kernel
theorem dX11_ahead_43 : decode cX11_ahead 43 = .ok (.putfield 23, 3) := by decide +kernel
theorem dX11_ahead_46 : decode cX11_ahead 46 = .ok (.aload_n 0, 1) := by decide +kernel
theorem dX11_ahead_47 : decode cX11_ahead 47 = .ok (.iload_n 1, 1) := by decide +kernel
theorem dX11_ahead_48 : decode cX11_ahead 48 = .ok (.putfield 26, 3) := by decide +kernel
theorem dX11_ahead_51 : decode cX11_ahead 51 = .ok (.aload_n 0, 1) := by decide +kernel
theorem dX11_ahead_52 : decode cX11_ahead 52 = .ok (.iconst 0, 1) := by decide +kernel
theorem dX11_ahead_53 : decode cX11_ahead 53 = .ok (.putfield 20, 3) := by decide +kernel
theorem dX11_ahead_56 : decode cX11_ahead 56 = .ok (.aload_n 0, 1) := by decide +kernel
theorem dX11_ahead_57 : decode cX11_ahead 57 = .ok (.iconst (-1), 1) := by decide +kernel
theorem dX11_ahead_58 : decode cX11_ahead 58 = .ok (.putfield 48, 3) := by decide +kernel
theorem dX11_ahead_61 : decode cX11_ahead 61 = .ok (.iload_n 1, 1) := by decide +kernel
theorem dX11_ahead_62 : decode cX11_ahead 62 = .ok (.aload_n 0, 1) := by decide +kernel
theorem dX11_ahead_63 : decode cX11_ahead 63 = .ok (.getfield 17, 3) := by decide +kernel
theorem dX11_ahead_66 : decode cX11_ahead 66 = .ok (.if_icmp .lt 4, 3) := by decide +kernel
theorem dX11_ahead_69 : decode cX11_ahead 69 = .ok (.return_, 1) := by decide +kernel
theorem dX11_ahead_70 : decode cX11_ahead 70 = .ok (.aload_n 0, 1) := by decide +kernel
theorem dX11_ahead_71 : decode cX11_ahead 71 = .ok (.getfield 7, 3) := by decide +kernel
theorem dX11_ahead_74 : decode cX11_ahead 74 = .ok (.iload_n 1, 1) := by decide +kernel
theorem dX11_ahead_75 : decode cX11_ahead 75 = .ok (.iaload, 1) := by decide +kernel
theorem dX11_ahead_76 : decode cX11_ahead 76 = .ok (.invokestatic 264, 3) := by decide +kernel
theorem dX11_ahead_79 : decode cX11_ahead 79 = .ok (.istore_n 2, 1) := by decide +kernel
theorem dX11_ahead_80 : decode cX11_ahead 80 = .ok (.aload_n 0, 1) := by decide +kernel
theorem dX11_ahead_81 : decode cX11_ahead 81 = .ok (.getfield 7, 3) := by decide +kernel
theorem dX11_ahead_84 : decode cX11_ahead 84 = .ok (.iload_n 1, 1) := by decide +kernel
theorem dX11_ahead_85 : decode cX11_ahead 85 = .ok (.iaload, 1) := by decide +kernel
theorem dX11_ahead_86 : decode cX11_ahead 86 = .ok (.invokestatic 268, 3) := by decide +kernel
theorem dX11_ahead_89 : decode cX11_ahead 89 = .ok (.istore_n 3, 1) := by decide +kernel
theorem dX11_ahead_90 : decode cX11_ahead 90 = .ok (.iload_n 2, 1) := by decide +kernel
theorem dX11_ahead_91 : decode cX11_ahead 91 = .ok (.ifCond .ne 7, 3) := by decide +kernel
theorem dX11_ahead_94 : decode cX11_ahead 94 = .ok (.iload_n 3, 1) := by decide +kernel
theorem dX11_ahead_95 : decode cX11_ahead 95 = .ok (.ifCond .eq 40, 3) := by decide +kernel
theorem dX11_ahead_98 : decode cX11_ahead 98 = .ok (.iload_n 1, 1) := by decide +kernel
theorem dX11_ahead_99 : decode cX11_ahead 99 = .ok (.ifCond .le 36, 3) := by decide +kernel
theorem dX11_ahead_102 : decode cX11_ahead 102 = .ok (.aload_n 0, 1) := by decide +kernel
theorem dX11_ahead_103 : decode cX11_ahead 103 = .ok (.getfield 7, 3) := by decide +kernel
theorem dX11_ahead_106 : decode cX11_ahead 106 = .ok (.iload_n 1, 1) := by decide +kernel
theorem dX11_ahead_107 : decode cX11_ahead 107 = .ok (.iconst 1, 1) := by decide +kernel
theorem dX11_ahead_108 : decode cX11_ahead 108 = .ok (.isub, 1) := by decide +kernel
theorem dX11_ahead_109 : decode cX11_ahead 109 = .ok (.iaload, 1) := by decide +kernel
theorem dX11_ahead_110 : decode cX11_ahead 110 = .ok (.invokestatic 264, 3) := by decide +kernel
theorem dX11_ahead_113 : decode cX11_ahead 113 = .ok (.ifCond .ne 17, 3) := by decide +kernel
theorem dX11_ahead_116 : decode cX11_ahead 116 = .ok (.aload_n 0, 1) := by decide +kernel
theorem dX11_ahead_117 : decode cX11_ahead 117 = .ok (.getfield 7, 3) := by decide +kernel
theorem dX11_ahead_120 : decode cX11_ahead 120 = .ok (.iload_n 1, 1) := by decide +kernel
theorem dX11_ahead_121 : decode cX11_ahead 121 = .ok (.iconst 1, 1) := by decide +kernel
theorem dX11_ahead_122 : decode cX11_ahead 122 = .ok (.isub, 1) := by decide +kernel
theorem dX11_ahead_123 : decode cX11_ahead 123 = .ok (.iaload, 1) := by decide +kernel
theorem dX11_ahead_124 : decode cX11_ahead 124 = .ok (.invokestatic 268, 3) := by decide +kernel
theorem dX11_ahead_127 : decode cX11_ahead 127 = .ok (.ifCond .eq 8, 3) := by decide +kernel
theorem dX11_ahead_130 : decode cX11_ahead 130 = .ok (.aload_n 0, 1) := by decide +kernel
theorem dX11_ahead_131 : decode cX11_ahead 131 = .ok (.iload_n 1, 1) := by decide +kernel
theorem dX11_ahead_132 : decode cX11_ahead 132 = .ok (.putfield 48, 3) := by decide +kernel
theorem dX11_ahead_135 : decode cX11_ahead 135 = .ok (.aload_n 0, 1) := by decide +kernel
theorem dX11_ahead_136 : decode cX11_ahead 136 = .ok (.iconst 0, 1) := by decide +kernel
theorem dX11_ahead_137 : decode cX11_ahead 137 = .ok (.putfield 29, 3) := by decide +kernel
theorem dX11_ahead_140 : decode cX11_ahead 140 = .ok (.aload_n 0, 1) := by decide +kernel
theorem dX11_ahead_141 : decode cX11_ahead 141 = .ok (.lconst 0, 1) := by decide +kernel
theorem dX11_ahead_142 : decode cX11_ahead 142 = .ok (.putfield 32, 3) := by decide +kernel
theorem dX11_ahead_145 : decode cX11_ahead 145 = .ok (.aload_n 0, 1) := by decide +kernel
theorem dX11_ahead_146 : decode cX11_ahead 146 = .ok (.iconst 3, 1) := by decide +kernel
theorem dX11_ahead_147 : decode cX11_ahead 147 = .ok (.putfield 20, 3) := by decide +kernel
theorem dX11_ahead_150 : decode cX11_ahead 150 = .ok (.aload_n 0, 1) := by decide +kernel
theorem dX11_ahead_151 : decode cX11_ahead 151 = .ok (.iload_n 1, 1) := by decide +kernel
theorem dX11_ahead_152 : decode cX11_ahead 152 = .ok (.iconst 1, 1) := by decide +kernel
theorem dX11_ahead_153 : decode cX11_ahead 153 = .ok (.iadd, 1) := by decide +kernel
theorem dX11_ahead_154 : decode cX11_ahead 154 = .ok (.putfield 26, 3) := by decide +kernel
theorem dX11_ahead_157 : decode cX11_ahead 157 = .ok (.iload_n 2, 1) := by decide +kernel
theorem dX11_ahead_158 : decode cX11_ahead 158 = .ok (.ifCond .ne 18, 3) := by decide +kernel
theorem dX11_ahead_161 : decode cX11_ahead 161 = .ok (.iload_n 3, 1) := by decide +kernel
theorem dX11_ahead_162 : decode cX11_ahead 162 = .ok (.ifCond .ne 14, 3) := by decide +kernel
theorem dX11_ahead_165 : decode cX11_ahead 165 = .ok (.aload_n 0, 1) := by decide +kernel
theorem dX11_ahead_166 : decode cX11_ahead 166 = .ok (.aload_n 0, 1) := by decide +kernel
theorem dX11_ahead_167 : decode cX11_ahead 167 = .ok (.getfield 7, 3) := by decide +kernel
theorem dX11_ahead_170 : decode cX11_ahead 170 = .ok (.iload_n 1, 1) := by decide +kernel
theorem dX11_ahead_171 : decode cX11_ahead 171 = .ok (.iaload, 1) := by decide +kernel
theorem dX11_ahead_172 : decode cX11_ahead 172 = .ok (.putfield 29, 3) := by decide +kernel
theorem dX11_ahead_175 : decode cX11_ahead 175 = .ok (.return_, 1) := by decide +kernel
theorem dX11_ahead_176 : decode cX11_ahead 176 = .ok (.aload_n 0, 1) := by decide +kernel
theorem dX11_ahead_177 : decode cX11_ahead 177 = .ok (.iload_n 2, 1) := by decide +kernel
theorem dX11_ahead_178 : decode cX11_ahead 178 = .ok (.ifCond .eq 7, 3) := by decide +kernel
theorem dX11_ahead_181 : decode cX11_ahead 181 = .ok (.iconst 1, 1) := by decide +kernel
theorem dX11_ahead_182 : decode cX11_ahead 182 = .ok (.goto 4, 3) := by decide +kernel
theorem dX11_ahead_185 : decode cX11_ahead 185 = .ok (.iconst 2, 1) := by decide +kernel
theorem dX11_ahead_186 : decode cX11_ahead 186 = .ok (.putfield 20, 3) := by decide +kernel
theorem dX11_ahead_189 : decode cX11_ahead 189 = .ok (.iload_n 2, 1) := by decide +kernel
theorem dX11_ahead_190 : decode cX11_ahead 190 = .ok (.ifCond .eq 8, 3) := by decide +kernel
theorem dX11_ahead_193 : decode cX11_ahead 193 = .ok (.bipush 6, 2) := by decide +kernel
theorem dX11_ahead_195 : decode cX11_ahead 195 = .ok (.goto 4, 3) := by decide +kernel
theorem dX11_ahead_198 : decode cX11_ahead 198 = .ok (.iconst 4, 1) := by decide +kernel
theorem dX11_ahead_199 : decode cX11_ahead 199 = .ok (.istore 4, 2) := by decide +kernel
theorem dX11_ahead_201 : decode cX11_ahead 201 = .ok (.iconst 0, 1) := by decide +kernel
theorem dX11_ahead_202 : decode cX11_ahead 202 = .ok (.istore 5, 2) := by decide +kernel
theorem dX11_ahead_204 : decode cX11_ahead 204 = .ok (.iload_n 1, 1) := by decide +kernel
theorem dX11_ahead_205 : decode cX11_ahead 205 = .ok (.aload_n 0, 1) := by decide +kernel
theorem dX11_ahead_206 : decode cX11_ahead 206 = .ok (.getfield 17, 3) := by decide +kernel
theorem dX11_ahead_209 : decode cX11_ahead 209 = .ok (.if_icmp .ge 125, 3) := by decide +kernel
theorem dX11_ahead_212 : decode cX11_ahead 212 = .ok (.iload_n 2, 1) := by decide +kernel
theorem dX11_ahead_213 : decode cX11_ahead 213 = .ok (.ifCond .eq 18, 3) := by decide +kernel
theorem dX11_ahead_216 : decode cX11_ahead 216 = .ok (.aload_n 0, 1) := by decide +kernel
theorem dX11_ahead_217 : decode cX11_ahead 217 = .ok (.getfield 7, 3) := by decide +kernel
theorem dX11_ahead_220 : decode cX11_ahead 220 = .ok (.iload_n 1, 1) := by decide +kernel
theorem dX11_ahead_221 : decode cX11_ahead 221 = .ok (.iaload, 1) := by decide +kernel
theorem dX11_ahead_222 : decode cX11_ahead 222 = .ok (.invokestatic 264, 3) := by decide +kernel
theorem dX11_ahead_225 : decode cX11_ahead 225 = .ok (.ifCond .eq 109, 3) := by decide +kernel
theorem dX11_ahead_228 : decode cX11_ahead 228 = .ok (.goto 15, 3) := by decide +kernel
theorem dX11_ahead_231 : decode cX11_ahead 231 = .ok (.aload_n 0, 1) := by decide +kernel
theorem dX11_ahead_232 : decode cX11_ahead 232 = .ok (.getfield 7, 3) := by decide +kernel
theorem dX11_ahead_235 : decode cX11_ahead 235 = .ok (.iload_n 1, 1) := by decide +kernel
theorem dX11_ahead_236 : decode cX11_ahead 236 = .ok (.iaload, 1) := by decide +kernel
theorem dX11_ahead_237 : decode cX11_ahead 237 = .ok (.invokestatic 268, 3) := by decide +kernel
theorem dX11_ahead_240 : decode cX11_ahead 240 = .ok (.ifCond .eq 94, 3) := by decide +kernel
theorem dX11_ahead_243 : decode cX11_ahead 243 = .ok (.iload 5, 2) := by decide +kernel
theorem dX11_ahead_245 : decode cX11_ahead 245 = .ok (.iload 4, 2) := by decide +kernel
theorem dX11_ahead_247 : decode cX11_ahead 247 = .ok (.if_icmp .ne 16, 3) := by decide +kernel
theorem dX11_ahead_250 : decode cX11_ahead 250 = .ok (.aload_n 0, 1) := by decide +kernel
theorem dX11_ahead_251 : decode cX11_ahead 251 = .ok (.getfield 48, 3) := by decide +kernel
theorem dX11_ahead_254 : decode cX11_ahead 254 = .ok (.iconst (-1), 1) := by decide +kernel
theorem dX11_ahead_255 : decode cX11_ahead 255 = .ok (.if_icmp .ne 8, 3) := by decide +kernel
theorem dX11_ahead_258 : decode cX11_ahead 258 = .ok (.aload_n 0, 1) := by decide +kernel
theorem dX11_ahead_259 : decode cX11_ahead 259 = .ok (.iload_n 1, 1) := by decide +kernel
theorem dX11_ahead_260 : decode cX11_ahead 260 = .ok (.putfield 48, 3) := by decide +kernel
theorem dX11_ahead_263 : decode cX11_ahead 263 = .ok (.iload 5, 2) := by decide +kernel
theorem dX11_ahead_265 : decode cX11_ahead 265 = .ok (.iload 4, 2) := by decide +kernel
theorem dX11_ahead_267 : decode cX11_ahead 267 = .ok (.if_icmp .ge 26, 3) := by decide +kernel
theorem dX11_ahead_270 : decode cX11_ahead 270 = .ok (.iload_n 2, 1) := by decide +kernel
theorem dX11_ahead_271 : decode cX11_ahead 271 = .ok (.ifCond .eq 22, 3) := by decide +kernel
theorem dX11_ahead_274 : decode cX11_ahead 274 = .ok (.aload_n 0, 1) := by decide +kernel
theorem dX11_ahead_275 : decode cX11_ahead 275 = .ok (.aload_n 0, 1) := by decide +kernel
theorem dX11_ahead_276 : decode cX11_ahead 276 = .ok (.getfield 32, 3) := by decide +kernel
theorem dX11_ahead_279 : decode cX11_ahead 279 = .ok (.bipush 8, 2) := by decide +kernel
theorem dX11_ahead_281 : decode cX11_ahead 281 = .ok (.lshl, 1) := by decide +kernel
theorem dX11_ahead_282 : decode cX11_ahead 282 = .ok (.aload_n 0, 1) := by decide +kernel
theorem dX11_ahead_283 : decode cX11_ahead 283 = .ok (.getfield 7, 3) := by decide +kernel
theorem dX11_ahead_286 : decode cX11_ahead 286 = .ok (.iload_n 1, 1) := by decide +kernel
theorem dX11_ahead_287 : decode cX11_ahead 287 = .ok (.iaload, 1) := by decide +kernel
theorem dX11_ahead_288 : decode cX11_ahead 288 = .ok (.i2l, 1) := by decide +kernel
theorem dX11_ahead_289 : decode cX11_ahead 289 = .ok (.lor, 1) := by decide +kernel
theorem dX11_ahead_290 : decode cX11_ahead 290 = .ok (.putfield 32, 3) := by decide +kernel
theorem dX11_ahead_293 : decode cX11_ahead 293 = .ok (.iload 5, 2) := by decide +kernel
theorem dX11_ahead_295 : decode cX11_ahead 295 = .ok (.iload 4, 2) := by decide +kernel
theorem dX11_ahead_297 : decode cX11_ahead 297 = .ok (.if_icmp .ge 28, 3) := by decide +kernel
theorem dX11_ahead_300 : decode cX11_ahead 300 = .ok (.iload_n 3, 1) := by decide +kernel
theorem dX11_ahead_301 : decode cX11_ahead 301 = .ok (.ifCond .eq 24, 3) := by decide +kernel
theorem dX11_ahead_304 : decode cX11_ahead 304 = .ok (.aload_n 0, 1) := by decide +kernel
theorem dX11_ahead_305 : decode cX11_ahead 305 = .ok (.bipush 10, 2) := by decide +kernel
theorem dX11_ahead_307 : decode cX11_ahead 307 = .ok (.aload_n 0, 1) := by decide +kernel
theorem dX11_ahead_308 : decode cX11_ahead 308 = .ok (.getfield 29, 3) := by decide +kernel
theorem dX11_ahead_311 : decode cX11_ahead 311 = .ok (.imul, 1) := by decide +kernel
theorem dX11_ahead_312 : decode cX11_ahead 312 = .ok (.aload_n 0, 1) := by decide +kernel
theorem dX11_ahead_313 : decode cX11_ahead 313 = .ok (.getfield 7, 3) := by decide +kernel
theorem dX11_ahead_316 : decode cX11_ahead 316 = .ok (.iload_n 1, 1) := by decide +kernel
theorem dX11_ahead_317 : decode cX11_ahead 317 = .ok (.iaload, 1) := by decide +kernel
theorem dX11_ahead_318 : decode cX11_ahead 318 = .ok (.iadd, 1) := by decide +kernel
theorem dX11_ahead_319 : decode cX11_ahead 319 = .ok (.bipush 48, 2) := by decide +kernel
theorem dX11_ahead_321 : decode cX11_ahead 321 = .ok (.isub, 1) := by decide +kernel
theorem dX11_ahead_322 : decode cX11_ahead 322 = .ok (.putfield 29, 3) := by decide +kernel
theorem dX11_ahead_325 : decode cX11_ahead 325 = .ok (.iinc 5 1, 3) := by decide +kernel
theorem dX11_ahead_328 : decode cX11_ahead 328 = .ok (.iinc 1 1, 3) := by decide +kernel
theorem dX11_ahead_331 : decode cX11_ahead 331 = .ok (.goto (-127), 3) := by decide +kernel
theorem dX11_ahead_334 : decode cX11_ahead 334 = .ok (.aload_n 0, 1) := by decide +kernel
theorem dX11_ahead_335 : decode cX11_ahead 335 = .ok (.iload_n 1, 1) := by decide +kernel
theorem dX11_ahead_336 : decode cX11_ahead 336 = .ok (.putfield 26, 3) := by decide +kernel
theorem dX11_ahead_339 : decode cX11_ahead 339 = .ok (.return_, 1) := by decide +kernel
def fX11_ahead_334 (x1 : Int32) (σ : zS) : Option zS := bnd (iS σ 56 5 x1) fun σ12 => some σ12
theorem kX11_ahead_334 {sc : Nat × (Nat → Int32)} (x1 : Int32) (σ : zS) (w : zS) (h : fX11_ahead_334 x1 σ = some w) : zR (zY0 sc) 2 0 0 mX11_ahead 334 [(0, .ref 56), (1, .int x1)] [] (zE σ) (none, zE w) := by
  unfold fX11_ahead_334 at h
  refine kR.aload_n dX11_ahead_334 0 rfl ?_
  refine kR.iload_n dX11_ahead_335 1 rfl ?_
  refine kR.putI dX11_ahead_336 fpX11_26 zcf11 zp56 rfl h (fun σ12 h => ?_)
  exact kR.vret dX11_ahead_339 h
def fX11_ahead_325 (r204 : Int32 → Int32 → Int32 → Int32 → Int32 → zS → Option zS) (x1 : Int32) (x2 : Int32) (x3 : Int32) (x4 : Int32) (x5 : Int32) (σ : zS) : Option zS := r204 (x1 + 1) x2 x3 x4 (x5 + 1) σ
theorem kX11_ahead_325 {sc : Nat × (Nat → Int32)} (r204 : Int32 → Int32 → Int32 → Int32 → Int32 → zS → Option zS) (hr204 : ∀ (x1 : Int32) (x2 : Int32) (x3 : Int32) (x4 : Int32) (x5 : Int32) (σ : zS) (w : zS), r204 x1 x2 x3 x4 x5 σ = some w → zR (zY0 sc) 2 0 0 mX11_ahead 204 [(0, .ref 56), (1, .int x1), (2, .int x2), (3, .int x3), (4, .int x4), (5, .int x5)] [] (zE σ) (none, zE w)) (x1 : Int32) (x2 : Int32) (x3 : Int32) (x4 : Int32) (x5 : Int32) (σ : zS) (w : zS) (h : fX11_ahead_325 r204 x1 x2 x3 x4 x5 σ = some w) : zR (zY0 sc) 2 0 0 mX11_ahead 325 [(0, .ref 56), (1, .int x1), (2, .int x2), (3, .int x3), (4, .int x4), (5, .int x5)] [] (zE σ) (none, zE w) := by
  unfold fX11_ahead_325 at h
  refine zR.iinc 5 (v := x5 + 1) (ls' := [(5, .int (x5 + 1)), (0, .ref 56), (1, .int x1), (2, .int x2), (3, .int x3), (4, .int x4)]) dX11_ahead_325 rfl rfl (by decide) rfl ?_
  refine zR.iinc 2 (v := x1 + 1) (ls' := [(1, .int (x1 + 1)), (5, .int (x5 + 1)), (0, .ref 56), (2, .int x2), (3, .int x3), (4, .int x4)]) dX11_ahead_328 rfl rfl (by decide) rfl ?_
  refine zR.goto (tgt := 204) dX11_ahead_331 (by decide) ?_
  refine zR.sub [2, 0, 3, 4, 5, 1] rfl ?_
  exact hr204 _ _ _ _ _ _ _ h
def fX11_ahead_293 (r204 : Int32 → Int32 → Int32 → Int32 → Int32 → zS → Option zS) (x1 : Int32) (x2 : Int32) (x3 : Int32) (x4 : Int32) (x5 : Int32) (σ : zS) : Option zS := if x4 ≤ x5 then fX11_ahead_325 r204 x1 x2 x3 x4 x5 σ else if x3 = 0 then fX11_ahead_325 r204 x1 x2 x3 x4 x5 σ else aI σ 57 1800 x1 fun v14 => bnd (iS σ 56 6 (((10 * (iG σ 56 6)) + v14) - 48)) fun σ15 => fX11_ahead_325 r204 x1 x2 x3 x4 x5 σ15
theorem kX11_ahead_293 {sc : Nat × (Nat → Int32)} (r204 : Int32 → Int32 → Int32 → Int32 → Int32 → zS → Option zS) (hr204 : ∀ (x1 : Int32) (x2 : Int32) (x3 : Int32) (x4 : Int32) (x5 : Int32) (σ : zS) (w : zS), r204 x1 x2 x3 x4 x5 σ = some w → zR (zY0 sc) 2 0 0 mX11_ahead 204 [(0, .ref 56), (1, .int x1), (2, .int x2), (3, .int x3), (4, .int x4), (5, .int x5)] [] (zE σ) (none, zE w)) (x1 : Int32) (x2 : Int32) (x3 : Int32) (x4 : Int32) (x5 : Int32) (σ : zS) (w : zS) (h : fX11_ahead_293 r204 x1 x2 x3 x4 x5 σ = some w) : zR (zY0 sc) 2 0 0 mX11_ahead 293 [(0, .ref 56), (1, .int x1), (2, .int x2), (3, .int x3), (4, .int x4), (5, .int x5)] [] (zE σ) (none, zE w) := by
  unfold fX11_ahead_293 at h
  refine kR.iload dX11_ahead_293 5 rfl ?_
  refine kR.iload dX11_ahead_295 4 rfl ?_
  refine kR.icmp_ge (tgt := 325) dX11_ahead_297 (by decide) h (fun h => ?_) (fun h => ?_)
  · exact kX11_ahead_325 r204 hr204 _ _ _ _ _ _ _ h
  · refine kR.iload_n dX11_ahead_300 3 rfl ?_
    refine kR.if_eq (tgt := 325) dX11_ahead_301 (by decide) h (fun h => ?_) (fun h => ?_)
    · exact kX11_ahead_325 r204 hr204 _ _ _ _ _ _ _ h
    · refine kR.aload_n dX11_ahead_304 0 rfl ?_
      refine zR.bipush (v := 10) dX11_ahead_305 (by decide) ?_
      refine kR.aload_n dX11_ahead_307 0 rfl ?_
      refine kR.getI dX11_ahead_308 flX11_29 zcf11 zp56 (Or.inl rfl) ?_
      refine zR.imul dX11_ahead_311 ?_
      refine kR.aload_n dX11_ahead_312 0 rfl ?_
      refine kR.getR (v := 57) dX11_ahead_313 flX11_7 zcf11 zp56 (Or.inr ⟨_, rfl⟩) rfl ?_
      refine kR.iload_n dX11_ahead_316 1 rfl ?_
      refine kR.iald dX11_ahead_317 zp57 rfl h (fun v14 h => ?_)
      refine zR.iadd dX11_ahead_318 ?_
      refine zR.bipush (v := 48) dX11_ahead_319 (by decide) ?_
      refine zR.isub dX11_ahead_321 ?_
      refine kR.putI dX11_ahead_322 fpX11_29 zcf11 zp56 rfl h (fun σ15 h => ?_)
      exact kX11_ahead_325 r204 hr204 _ _ _ _ _ _ _ h
def fX11_ahead_263 (r204 : Int32 → Int32 → Int32 → Int32 → Int32 → zS → Option zS) (x1 : Int32) (x2 : Int32) (x3 : Int32) (x4 : Int32) (x5 : Int32) (σ : zS) : Option zS := if x4 ≤ x5 then fX11_ahead_293 r204 x1 x2 x3 x4 x5 σ else if x2 = 0 then fX11_ahead_293 r204 x1 x2 x3 x4 x5 σ else aI σ 57 1800 x1 fun v16 => bnd (lS σ 56 7 (((lG σ 56 7) <<< (((8) : Int32).toInt64 &&& 63)) ||| v16.toInt64)) fun σ17 => fX11_ahead_293 r204 x1 x2 x3 x4 x5 σ17
theorem kX11_ahead_263 {sc : Nat × (Nat → Int32)} (r204 : Int32 → Int32 → Int32 → Int32 → Int32 → zS → Option zS) (hr204 : ∀ (x1 : Int32) (x2 : Int32) (x3 : Int32) (x4 : Int32) (x5 : Int32) (σ : zS) (w : zS), r204 x1 x2 x3 x4 x5 σ = some w → zR (zY0 sc) 2 0 0 mX11_ahead 204 [(0, .ref 56), (1, .int x1), (2, .int x2), (3, .int x3), (4, .int x4), (5, .int x5)] [] (zE σ) (none, zE w)) (x1 : Int32) (x2 : Int32) (x3 : Int32) (x4 : Int32) (x5 : Int32) (σ : zS) (w : zS) (h : fX11_ahead_263 r204 x1 x2 x3 x4 x5 σ = some w) : zR (zY0 sc) 2 0 0 mX11_ahead 263 [(0, .ref 56), (1, .int x1), (2, .int x2), (3, .int x3), (4, .int x4), (5, .int x5)] [] (zE σ) (none, zE w) := by
  unfold fX11_ahead_263 at h
  refine kR.iload dX11_ahead_263 5 rfl ?_
  refine kR.iload dX11_ahead_265 4 rfl ?_
  refine kR.icmp_ge (tgt := 293) dX11_ahead_267 (by decide) h (fun h => ?_) (fun h => ?_)
  · exact kX11_ahead_293 r204 hr204 _ _ _ _ _ _ _ h
  · refine kR.iload_n dX11_ahead_270 2 rfl ?_
    refine kR.if_eq (tgt := 293) dX11_ahead_271 (by decide) h (fun h => ?_) (fun h => ?_)
    · exact kX11_ahead_293 r204 hr204 _ _ _ _ _ _ _ h
    · refine kR.aload_n dX11_ahead_274 0 rfl ?_
      refine kR.aload_n dX11_ahead_275 0 rfl ?_
      refine kR.getL dX11_ahead_276 flX11_32 zcf11 zp56 rfl ?_
      refine zR.bipush (v := 8) dX11_ahead_279 (by decide) ?_
      refine zR.lshl dX11_ahead_281 ?_
      refine kR.aload_n dX11_ahead_282 0 rfl ?_
      refine kR.getR (v := 57) dX11_ahead_283 flX11_7 zcf11 zp56 (Or.inr ⟨_, rfl⟩) rfl ?_
      refine kR.iload_n dX11_ahead_286 1 rfl ?_
      refine kR.iald dX11_ahead_287 zp57 rfl h (fun v16 h => ?_)
      refine zR.i2l dX11_ahead_288 ?_
      refine zR.lor dX11_ahead_289 ?_
      refine kR.putL dX11_ahead_290 fpX11_32 zcf11 zp56 rfl h (fun σ17 h => ?_)
      exact kX11_ahead_293 r204 hr204 _ _ _ _ _ _ _ h
def fX11_ahead_243 (r204 : Int32 → Int32 → Int32 → Int32 → Int32 → zS → Option zS) (x1 : Int32) (x2 : Int32) (x3 : Int32) (x4 : Int32) (x5 : Int32) (σ : zS) : Option zS := if x5 = x4 then if (iG σ 56 12) = ((-1)) then bnd (iS σ 56 12 x1) fun σ18 => fX11_ahead_263 r204 x1 x2 x3 x4 x5 σ18 else fX11_ahead_263 r204 x1 x2 x3 x4 x5 σ else fX11_ahead_263 r204 x1 x2 x3 x4 x5 σ
theorem kX11_ahead_243 {sc : Nat × (Nat → Int32)} (r204 : Int32 → Int32 → Int32 → Int32 → Int32 → zS → Option zS) (hr204 : ∀ (x1 : Int32) (x2 : Int32) (x3 : Int32) (x4 : Int32) (x5 : Int32) (σ : zS) (w : zS), r204 x1 x2 x3 x4 x5 σ = some w → zR (zY0 sc) 2 0 0 mX11_ahead 204 [(0, .ref 56), (1, .int x1), (2, .int x2), (3, .int x3), (4, .int x4), (5, .int x5)] [] (zE σ) (none, zE w)) (x1 : Int32) (x2 : Int32) (x3 : Int32) (x4 : Int32) (x5 : Int32) (σ : zS) (w : zS) (h : fX11_ahead_243 r204 x1 x2 x3 x4 x5 σ = some w) : zR (zY0 sc) 2 0 0 mX11_ahead 243 [(0, .ref 56), (1, .int x1), (2, .int x2), (3, .int x3), (4, .int x4), (5, .int x5)] [] (zE σ) (none, zE w) := by
  unfold fX11_ahead_243 at h
  refine kR.iload dX11_ahead_243 5 rfl ?_
  refine kR.iload dX11_ahead_245 4 rfl ?_
  refine kR.icmp_ne (tgt := 263) dX11_ahead_247 (by decide) h (fun h => ?_) (fun h => ?_)
  · exact kX11_ahead_263 r204 hr204 _ _ _ _ _ _ _ h
  · refine kR.aload_n dX11_ahead_250 0 rfl ?_
    refine kR.getI dX11_ahead_251 flX11_48 zcf11 zp56 (Or.inl rfl) ?_
    refine zR.iconst (v := (-1)) dX11_ahead_254 (by decide) ?_
    refine kR.icmp_ne (tgt := 263) dX11_ahead_255 (by decide) h (fun h => ?_) (fun h => ?_)
    · exact kX11_ahead_263 r204 hr204 _ _ _ _ _ _ _ h
    · refine kR.aload_n dX11_ahead_258 0 rfl ?_
      refine kR.iload_n dX11_ahead_259 1 rfl ?_
      refine kR.putI dX11_ahead_260 fpX11_48 zcf11 zp56 rfl h (fun σ18 h => ?_)
      exact kX11_ahead_263 r204 hr204 _ _ _ _ _ _ _ h
def fX11_ahead_204 : Nat → Int32 → Int32 → Int32 → Int32 → Int32 → zS → Option zS
  | 0, _, _, _, _, _, _ => none
  | f + 1, x1, x2, x3, x4, x5, σ => if (iG σ 56 2) ≤ x1 then fX11_ahead_334 x1 σ else if x2 = 0 then aI σ 57 1800 x1 fun v13 => if (fX11_isDigit v13) = 0 then fX11_ahead_334 x1 σ else fX11_ahead_243 (fX11_ahead_204 f) x1 x2 x3 x4 x5 σ else aI σ 57 1800 x1 fun v19 => if (fX11_isLetter v19) = 0 then fX11_ahead_334 x1 σ else fX11_ahead_243 (fX11_ahead_204 f) x1 x2 x3 x4 x5 σ
theorem kX11_ahead_204 {sc : Nat × (Nat → Int32)} : ∀ (fuel : Nat) (x1 : Int32) (x2 : Int32) (x3 : Int32) (x4 : Int32) (x5 : Int32) (σ : zS) (w : zS) (h : fX11_ahead_204 fuel x1 x2 x3 x4 x5 σ = some w), zR (zY0 sc) 2 0 0 mX11_ahead 204 [(0, .ref 56), (1, .int x1), (2, .int x2), (3, .int x3), (4, .int x4), (5, .int x5)] [] (zE σ) (none, zE w) := by
  intro fuel
  induction fuel with
  | zero => intro x1 x2 x3 x4 x5 σ w h; exact nomatch h
  | succ f ih =>
    intro x1 x2 x3 x4 x5 σ w h
    rw [fX11_ahead_204] at h
    refine kR.iload_n dX11_ahead_204 1 rfl ?_
    refine kR.aload_n dX11_ahead_205 0 rfl ?_
    refine kR.getI dX11_ahead_206 flX11_17 zcf11 zp56 (Or.inl rfl) ?_
    refine kR.icmp_ge (tgt := 334) dX11_ahead_209 (by decide) h (fun h => ?_) (fun h => ?_)
    · refine zR.sub [0, 1] rfl ?_
      exact kX11_ahead_334 _ _ _ h
    · refine kR.iload_n dX11_ahead_212 2 rfl ?_
      refine kR.if_eq (tgt := 231) dX11_ahead_213 (by decide) h (fun h => ?_) (fun h => ?_)
      · refine kR.aload_n dX11_ahead_231 0 rfl ?_
        refine kR.getR (v := 57) dX11_ahead_232 flX11_7 zcf11 zp56 (Or.inr ⟨_, rfl⟩) rfl ?_
        refine kR.iload_n dX11_ahead_235 1 rfl ?_
        refine kR.iald dX11_ahead_236 zp57 rfl h (fun v13 h => ?_)
        refine kR.cSi [.int v13] dX11_ahead_237 rfl (by decide) (Or.inl mwX11_268) rfl (Nat.le_of_ble_eq_true rfl) (lX11_isDigit v13) ?_
        refine kR.if_eq (tgt := 334) dX11_ahead_240 (by decide) h (fun h => ?_) (fun h => ?_)
        · refine zR.sub [0, 1] rfl ?_
          exact kX11_ahead_334 _ _ _ h
        · exact kX11_ahead_243 (fX11_ahead_204 f) ih _ _ _ _ _ _ _ h
      · refine kR.aload_n dX11_ahead_216 0 rfl ?_
        refine kR.getR (v := 57) dX11_ahead_217 flX11_7 zcf11 zp56 (Or.inr ⟨_, rfl⟩) rfl ?_
        refine kR.iload_n dX11_ahead_220 1 rfl ?_
        refine kR.iald dX11_ahead_221 zp57 rfl h (fun v19 h => ?_)
        refine kR.cSi [.int v19] dX11_ahead_222 rfl (by decide) (Or.inl mwX11_264) rfl (Nat.le_of_ble_eq_true rfl) (lX11_isLetter v19) ?_
        refine kR.if_eq (tgt := 334) dX11_ahead_225 (by decide) h (fun h => ?_) (fun h => ?_)
        · refine zR.sub [0, 1] rfl ?_
          exact kX11_ahead_334 _ _ _ h
        · refine zR.goto (tgt := 243) dX11_ahead_228 (by decide) ?_
          exact kX11_ahead_243 (fX11_ahead_204 f) ih _ _ _ _ _ _ _ h
def fX11_ahead_199 (x1 : Int32) (x2 : Int32) (x3 : Int32) (s0 : Int32) (σ : zS) : Option zS := fX11_ahead_204 zF x1 x2 x3 s0 0 σ
theorem kX11_ahead_199 {sc : Nat × (Nat → Int32)} (x1 : Int32) (x2 : Int32) (x3 : Int32) (s0 : Int32) (σ : zS) (w : zS) (h : fX11_ahead_199 x1 x2 x3 s0 σ = some w) : zR (zY0 sc) 2 0 0 mX11_ahead 199 [(0, .ref 56), (1, .int x1), (2, .int x2), (3, .int x3)] [.int s0] (zE σ) (none, zE w) := by
  unfold fX11_ahead_199 at h
  refine zR.istore (i := 4) (ls' := [(4, .int s0), (0, .ref 56), (1, .int x1), (2, .int x2), (3, .int x3)]) dX11_ahead_199 (by decide) rfl ?_
  refine zR.iconst (v := 0) dX11_ahead_201 (by decide) ?_
  refine zR.istore (i := 5) (ls' := [(5, .int 0), (4, .int s0), (0, .ref 56), (1, .int x1), (2, .int x2), (3, .int x3)]) dX11_ahead_202 (by decide) rfl ?_
  refine zR.sub [2, 3, 4, 5, 1, 0] rfl ?_
  exact kX11_ahead_204 zF _ _ _ _ _ _ _ h
def fX11_ahead_186 (x1 : Int32) (x2 : Int32) (x3 : Int32) (s0 : Int32) (σ : zS) : Option zS := bnd (iS σ 56 3 s0) fun σ11 => if x2 = 0 then fX11_ahead_199 x1 x2 x3 4 σ11 else fX11_ahead_199 x1 x2 x3 6 σ11
theorem kX11_ahead_186 {sc : Nat × (Nat → Int32)} (x1 : Int32) (x2 : Int32) (x3 : Int32) (s0 : Int32) (σ : zS) (w : zS) (h : fX11_ahead_186 x1 x2 x3 s0 σ = some w) : zR (zY0 sc) 2 0 0 mX11_ahead 186 [(0, .ref 56), (1, .int x1), (2, .int x2), (3, .int x3)] [.int s0, .ref 56] (zE σ) (none, zE w) := by
  unfold fX11_ahead_186 at h
  refine kR.putI dX11_ahead_186 fpX11_20 zcf11 zp56 rfl h (fun σ11 h => ?_)
  refine kR.iload_n dX11_ahead_189 2 rfl ?_
  refine kR.if_eq (tgt := 198) dX11_ahead_190 (by decide) h (fun h => ?_) (fun h => ?_)
  · refine zR.iconst (v := 4) dX11_ahead_198 (by decide) ?_
    exact kX11_ahead_199 _ _ _ _ _ _ h
  · refine zR.bipush (v := 6) dX11_ahead_193 (by decide) ?_
    refine zR.goto (tgt := 199) dX11_ahead_195 (by decide) ?_
    exact kX11_ahead_199 _ _ _ _ _ _ h
def fX11_ahead_176 (x1 : Int32) (x2 : Int32) (x3 : Int32) (σ : zS) : Option zS := if x2 = 0 then fX11_ahead_186 x1 x2 x3 2 σ else fX11_ahead_186 x1 x2 x3 1 σ
theorem kX11_ahead_176 {sc : Nat × (Nat → Int32)} (x1 : Int32) (x2 : Int32) (x3 : Int32) (σ : zS) (w : zS) (h : fX11_ahead_176 x1 x2 x3 σ = some w) : zR (zY0 sc) 2 0 0 mX11_ahead 176 [(0, .ref 56), (1, .int x1), (2, .int x2), (3, .int x3)] [] (zE σ) (none, zE w) := by
  unfold fX11_ahead_176 at h
  refine kR.aload_n dX11_ahead_176 0 rfl ?_
  refine kR.iload_n dX11_ahead_177 2 rfl ?_
  refine kR.if_eq (tgt := 185) dX11_ahead_178 (by decide) h (fun h => ?_) (fun h => ?_)
  · refine zR.iconst (v := 2) dX11_ahead_185 (by decide) ?_
    exact kX11_ahead_186 _ _ _ _ _ _ h
  · refine zR.iconst (v := 1) dX11_ahead_181 (by decide) ?_
    refine zR.goto (tgt := 186) dX11_ahead_182 (by decide) ?_
    exact kX11_ahead_186 _ _ _ _ _ _ h
def fX11_ahead_135 (x1 : Int32) (x2 : Int32) (x3 : Int32) (σ : zS) : Option zS := bnd (iS σ 56 6 0) fun σ7 => bnd (lS σ7 56 7 0) fun σ8 => bnd (iS σ8 56 3 3) fun σ9 => bnd (iS σ9 56 5 (x1 + 1)) fun σ10 => if x2 = 0 then if x3 = 0 then aI σ10 57 1800 x1 fun v20 => bnd (iS σ10 56 6 v20) fun σ21 => some σ21 else fX11_ahead_176 x1 x2 x3 σ10 else fX11_ahead_176 x1 x2 x3 σ10
theorem kX11_ahead_135 {sc : Nat × (Nat → Int32)} (x1 : Int32) (x2 : Int32) (x3 : Int32) (σ : zS) (w : zS) (h : fX11_ahead_135 x1 x2 x3 σ = some w) : zR (zY0 sc) 2 0 0 mX11_ahead 135 [(0, .ref 56), (1, .int x1), (2, .int x2), (3, .int x3)] [] (zE σ) (none, zE w) := by
  unfold fX11_ahead_135 at h
  refine kR.aload_n dX11_ahead_135 0 rfl ?_
  refine zR.iconst (v := 0) dX11_ahead_136 (by decide) ?_
  refine kR.putI dX11_ahead_137 fpX11_29 zcf11 zp56 rfl h (fun σ7 h => ?_)
  refine kR.aload_n dX11_ahead_140 0 rfl ?_
  refine zR.lconst (v := 0) dX11_ahead_141 (by decide) ?_
  refine kR.putL dX11_ahead_142 fpX11_32 zcf11 zp56 rfl h (fun σ8 h => ?_)
  refine kR.aload_n dX11_ahead_145 0 rfl ?_
  refine zR.iconst (v := 3) dX11_ahead_146 (by decide) ?_
  refine kR.putI dX11_ahead_147 fpX11_20 zcf11 zp56 rfl h (fun σ9 h => ?_)
  refine kR.aload_n dX11_ahead_150 0 rfl ?_
  refine kR.iload_n dX11_ahead_151 1 rfl ?_
  refine zR.iconst (v := 1) dX11_ahead_152 (by decide) ?_
  refine zR.iadd dX11_ahead_153 ?_
  refine kR.putI dX11_ahead_154 fpX11_26 zcf11 zp56 rfl h (fun σ10 h => ?_)
  refine kR.iload_n dX11_ahead_157 2 rfl ?_
  refine kR.if_ne (tgt := 176) dX11_ahead_158 (by decide) h (fun h => ?_) (fun h => ?_)
  · exact kX11_ahead_176 _ _ _ _ _ h
  · refine kR.iload_n dX11_ahead_161 3 rfl ?_
    refine kR.if_ne (tgt := 176) dX11_ahead_162 (by decide) h (fun h => ?_) (fun h => ?_)
    · exact kX11_ahead_176 _ _ _ _ _ h
    · refine kR.aload_n dX11_ahead_165 0 rfl ?_
      refine kR.aload_n dX11_ahead_166 0 rfl ?_
      refine kR.getR (v := 57) dX11_ahead_167 flX11_7 zcf11 zp56 (Or.inr ⟨_, rfl⟩) rfl ?_
      refine kR.iload_n dX11_ahead_170 1 rfl ?_
      refine kR.iald dX11_ahead_171 zp57 rfl h (fun v20 h => ?_)
      refine kR.putI dX11_ahead_172 fpX11_29 zcf11 zp56 rfl h (fun σ21 h => ?_)
      exact kR.vret dX11_ahead_175 h
def fX11_ahead_130 (x1 : Int32) (x2 : Int32) (x3 : Int32) (σ : zS) : Option zS := bnd (iS σ 56 12 x1) fun σ23 => fX11_ahead_135 x1 x2 x3 σ23
theorem kX11_ahead_130 {sc : Nat × (Nat → Int32)} (x1 : Int32) (x2 : Int32) (x3 : Int32) (σ : zS) (w : zS) (h : fX11_ahead_130 x1 x2 x3 σ = some w) : zR (zY0 sc) 2 0 0 mX11_ahead 130 [(0, .ref 56), (1, .int x1), (2, .int x2), (3, .int x3)] [] (zE σ) (none, zE w) := by
  unfold fX11_ahead_130 at h
  refine kR.aload_n dX11_ahead_130 0 rfl ?_
  refine kR.iload_n dX11_ahead_131 1 rfl ?_
  refine kR.putI dX11_ahead_132 fpX11_48 zcf11 zp56 rfl h (fun σ23 h => ?_)
  exact kX11_ahead_135 _ _ _ _ _ h
def fX11_ahead_98 (x1 : Int32) (x2 : Int32) (x3 : Int32) (σ : zS) : Option zS := if x1 ≤ 0 then fX11_ahead_135 x1 x2 x3 σ else aI σ 57 1800 (x1 - 1) fun v22 => if (fX11_isLetter v22) = 0 then aI σ 57 1800 (x1 - 1) fun v24 => if (fX11_isDigit v24) = 0 then fX11_ahead_135 x1 x2 x3 σ else fX11_ahead_130 x1 x2 x3 σ else fX11_ahead_130 x1 x2 x3 σ
theorem kX11_ahead_98 {sc : Nat × (Nat → Int32)} (x1 : Int32) (x2 : Int32) (x3 : Int32) (σ : zS) (w : zS) (h : fX11_ahead_98 x1 x2 x3 σ = some w) : zR (zY0 sc) 2 0 0 mX11_ahead 98 [(0, .ref 56), (1, .int x1), (2, .int x2), (3, .int x3)] [] (zE σ) (none, zE w) := by
  unfold fX11_ahead_98 at h
  refine kR.iload_n dX11_ahead_98 1 rfl ?_
  refine kR.if_le (tgt := 135) dX11_ahead_99 (by decide) h (fun h => ?_) (fun h => ?_)
  · exact kX11_ahead_135 _ _ _ _ _ h
  · refine kR.aload_n dX11_ahead_102 0 rfl ?_
    refine kR.getR (v := 57) dX11_ahead_103 flX11_7 zcf11 zp56 (Or.inr ⟨_, rfl⟩) rfl ?_
    refine kR.iload_n dX11_ahead_106 1 rfl ?_
    refine zR.iconst (v := 1) dX11_ahead_107 (by decide) ?_
    refine zR.isub dX11_ahead_108 ?_
    refine kR.iald dX11_ahead_109 zp57 rfl h (fun v22 h => ?_)
    refine kR.cSi [.int v22] dX11_ahead_110 rfl (by decide) (Or.inl mwX11_264) rfl (Nat.le_of_ble_eq_true rfl) (lX11_isLetter v22) ?_
    refine kR.if_ne (tgt := 130) dX11_ahead_113 (by decide) h (fun h => ?_) (fun h => ?_)
    · exact kX11_ahead_130 _ _ _ _ _ h
    · refine kR.aload_n dX11_ahead_116 0 rfl ?_
      refine kR.getR (v := 57) dX11_ahead_117 flX11_7 zcf11 zp56 (Or.inr ⟨_, rfl⟩) rfl ?_
      refine kR.iload_n dX11_ahead_120 1 rfl ?_
      refine zR.iconst (v := 1) dX11_ahead_121 (by decide) ?_
      refine zR.isub dX11_ahead_122 ?_
      refine kR.iald dX11_ahead_123 zp57 rfl h (fun v24 h => ?_)
      refine kR.cSi [.int v24] dX11_ahead_124 rfl (by decide) (Or.inl mwX11_268) rfl (Nat.le_of_ble_eq_true rfl) (lX11_isDigit v24) ?_
      refine kR.if_eq (tgt := 135) dX11_ahead_127 (by decide) h (fun h => ?_) (fun h => ?_)
      · exact kX11_ahead_135 _ _ _ _ _ h
      · exact kX11_ahead_130 _ _ _ _ _ h
def fX11_ahead_41 (x1 : Int32) (σ : zS) : Option zS := bnd (iS σ 56 4 x1) fun σ1 => bnd (iS σ1 56 5 x1) fun σ2 => bnd (iS σ2 56 3 0) fun σ3 => bnd (iS σ3 56 12 ((-1))) fun σ4 => if x1 < (iG σ4 56 2) then aI σ4 57 1800 x1 fun v5 => aI σ4 57 1800 x1 fun v6 => if (fX11_isLetter v5) = 0 then if (fX11_isDigit v6) = 0 then fX11_ahead_135 x1 (fX11_isLetter v5) (fX11_isDigit v6) σ4 else fX11_ahead_98 x1 (fX11_isLetter v5) (fX11_isDigit v6) σ4 else fX11_ahead_98 x1 (fX11_isLetter v5) (fX11_isDigit v6) σ4 else some σ4
theorem kX11_ahead_41 {sc : Nat × (Nat → Int32)} (x1 : Int32) (σ : zS) (w : zS) (h : fX11_ahead_41 x1 σ = some w) : zR (zY0 sc) 2 0 0 mX11_ahead 41 [(0, .ref 56), (1, .int x1)] [] (zE σ) (none, zE w) := by
  unfold fX11_ahead_41 at h
  refine kR.aload_n dX11_ahead_41 0 rfl ?_
  refine kR.iload_n dX11_ahead_42 1 rfl ?_
  refine kR.putI dX11_ahead_43 fpX11_23 zcf11 zp56 rfl h (fun σ1 h => ?_)
  refine kR.aload_n dX11_ahead_46 0 rfl ?_
  refine kR.iload_n dX11_ahead_47 1 rfl ?_
  refine kR.putI dX11_ahead_48 fpX11_26 zcf11 zp56 rfl h (fun σ2 h => ?_)
  refine kR.aload_n dX11_ahead_51 0 rfl ?_
  refine zR.iconst (v := 0) dX11_ahead_52 (by decide) ?_
  refine kR.putI dX11_ahead_53 fpX11_20 zcf11 zp56 rfl h (fun σ3 h => ?_)
  refine kR.aload_n dX11_ahead_56 0 rfl ?_
  refine zR.iconst (v := (-1)) dX11_ahead_57 (by decide) ?_
  refine kR.putI dX11_ahead_58 fpX11_48 zcf11 zp56 rfl h (fun σ4 h => ?_)
  refine kR.iload_n dX11_ahead_61 1 rfl ?_
  refine kR.aload_n dX11_ahead_62 0 rfl ?_
  refine kR.getI dX11_ahead_63 flX11_17 zcf11 zp56 (Or.inl rfl) ?_
  refine kR.icmp_lt (tgt := 70) dX11_ahead_66 (by decide) h (fun h => ?_) (fun h => ?_)
  · refine kR.aload_n dX11_ahead_70 0 rfl ?_
    refine kR.getR (v := 57) dX11_ahead_71 flX11_7 zcf11 zp56 (Or.inr ⟨_, rfl⟩) rfl ?_
    refine kR.iload_n dX11_ahead_74 1 rfl ?_
    refine kR.iald dX11_ahead_75 zp57 rfl h (fun v5 h => ?_)
    refine kR.cSi [.int v5] dX11_ahead_76 rfl (by decide) (Or.inl mwX11_264) rfl (Nat.le_of_ble_eq_true rfl) (lX11_isLetter v5) ?_
    refine zR.istore_n (i := 2) (ls' := [(2, .int (fX11_isLetter v5)), (0, .ref 56), (1, .int x1)]) dX11_ahead_79 rfl (by decide) rfl ?_
    refine kR.aload_n dX11_ahead_80 1 rfl ?_
    refine kR.getR (v := 57) dX11_ahead_81 flX11_7 zcf11 zp56 (Or.inr ⟨_, rfl⟩) rfl ?_
    refine kR.iload_n dX11_ahead_84 2 rfl ?_
    refine kR.iald dX11_ahead_85 zp57 rfl h (fun v6 h => ?_)
    refine kR.cSi [.int v6] dX11_ahead_86 rfl (by decide) (Or.inl mwX11_268) rfl (Nat.le_of_ble_eq_true rfl) (lX11_isDigit v6) ?_
    refine zR.istore_n (i := 3) (ls' := [(3, .int (fX11_isDigit v6)), (2, .int (fX11_isLetter v5)), (0, .ref 56), (1, .int x1)]) dX11_ahead_89 rfl (by decide) rfl ?_
    refine kR.iload_n dX11_ahead_90 1 rfl ?_
    refine kR.if_ne (tgt := 98) dX11_ahead_91 (by decide) h (fun h => ?_) (fun h => ?_)
    · refine zR.sub [2, 3, 1, 0] rfl ?_
      exact kX11_ahead_98 _ _ _ _ _ h
    · refine kR.iload_n dX11_ahead_94 0 rfl ?_
      refine kR.if_eq (tgt := 135) dX11_ahead_95 (by decide) h (fun h => ?_) (fun h => ?_)
      · refine zR.sub [2, 3, 1, 0] rfl ?_
        exact kX11_ahead_135 _ _ _ _ _ h
      · refine zR.sub [2, 3, 1, 0] rfl ?_
        exact kX11_ahead_98 _ _ _ _ _ h
  · exact kR.vret dX11_ahead_69 h
def fX11_ahead_35 (r5 : Int32 → zS → Option zS) (x1 : Int32) (σ : zS) : Option zS := r5 (x1 + 1) σ
theorem kX11_ahead_35 {sc : Nat × (Nat → Int32)} (r5 : Int32 → zS → Option zS) (hr5 : ∀ (x1 : Int32) (σ : zS) (w : zS), r5 x1 σ = some w → zR (zY0 sc) 2 0 0 mX11_ahead 5 [(0, .ref 56), (1, .int x1)] [] (zE σ) (none, zE w)) (x1 : Int32) (σ : zS) (w : zS) (h : fX11_ahead_35 r5 x1 σ = some w) : zR (zY0 sc) 2 0 0 mX11_ahead 35 [(0, .ref 56), (1, .int x1)] [] (zE σ) (none, zE w) := by
  unfold fX11_ahead_35 at h
  refine zR.iinc 1 (v := x1 + 1) (ls' := [(1, .int (x1 + 1)), (0, .ref 56)]) dX11_ahead_35 rfl rfl (by decide) rfl ?_
  refine zR.goto (tgt := 5) dX11_ahead_38 (by decide) ?_
  refine zR.sub [1, 0] rfl ?_
  exact hr5 _ _ _ h
def fX11_ahead_5 : Nat → Int32 → zS → Option zS
  | 0, _, _ => none
  | f + 1, x1, σ => if (iG σ 56 2) ≤ x1 then fX11_ahead_41 x1 σ else aI σ 57 1800 x1 fun v25 => if v25 = 32 then fX11_ahead_35 (fX11_ahead_5 f) x1 σ else aI σ 57 1800 x1 fun v26 => if v26 = 10 then fX11_ahead_35 (fX11_ahead_5 f) x1 σ else fX11_ahead_41 x1 σ
theorem kX11_ahead_5 {sc : Nat × (Nat → Int32)} : ∀ (fuel : Nat) (x1 : Int32) (σ : zS) (w : zS) (h : fX11_ahead_5 fuel x1 σ = some w), zR (zY0 sc) 2 0 0 mX11_ahead 5 [(0, .ref 56), (1, .int x1)] [] (zE σ) (none, zE w) := by
  intro fuel
  induction fuel with
  | zero => intro x1 σ w h; exact nomatch h
  | succ f ih =>
    intro x1 σ w h
    rw [fX11_ahead_5] at h
    refine kR.iload_n dX11_ahead_5 1 rfl ?_
    refine kR.aload_n dX11_ahead_6 0 rfl ?_
    refine kR.getI dX11_ahead_7 flX11_17 zcf11 zp56 (Or.inl rfl) ?_
    refine kR.icmp_ge (tgt := 41) dX11_ahead_10 (by decide) h (fun h => ?_) (fun h => ?_)
    · exact kX11_ahead_41 _ _ _ h
    · refine kR.aload_n dX11_ahead_13 0 rfl ?_
      refine kR.getR (v := 57) dX11_ahead_14 flX11_7 zcf11 zp56 (Or.inr ⟨_, rfl⟩) rfl ?_
      refine kR.iload_n dX11_ahead_17 1 rfl ?_
      refine kR.iald dX11_ahead_18 zp57 rfl h (fun v25 h => ?_)
      refine zR.bipush (v := 32) dX11_ahead_19 (by decide) ?_
      refine kR.icmp_eq (tgt := 35) dX11_ahead_21 (by decide) h (fun h => ?_) (fun h => ?_)
      · exact kX11_ahead_35 (fX11_ahead_5 f) ih _ _ _ h
      · refine kR.aload_n dX11_ahead_24 0 rfl ?_
        refine kR.getR (v := 57) dX11_ahead_25 flX11_7 zcf11 zp56 (Or.inr ⟨_, rfl⟩) rfl ?_
        refine kR.iload_n dX11_ahead_28 1 rfl ?_
        refine kR.iald dX11_ahead_29 zp57 rfl h (fun v26 h => ?_)
        refine zR.bipush (v := 10) dX11_ahead_30 (by decide) ?_
        refine kR.icmp_ne (tgt := 41) dX11_ahead_32 (by decide) h (fun h => ?_) (fun h => ?_)
        · exact kX11_ahead_41 _ _ _ h
        · exact kX11_ahead_35 (fX11_ahead_5 f) ih _ _ _ h
def fX11_ahead (σ : zS) : Option zS := fX11_ahead_5 zF (iG σ 56 5) σ
theorem eX11_ahead {sc : Nat × (Nat → Int32)} (σ : zS) (w : zS) (h : fX11_ahead σ = some w) : zR (zY0 sc) 2 0 0 mX11_ahead 0 [(0, .ref 56)] [] (zE σ) (none, zE w) := by
  unfold fX11_ahead at h
  refine kR.aload_n dX11_ahead_0 0 rfl ?_
  refine kR.getI dX11_ahead_1 flX11_26 zcf11 zp56 (Or.inl rfl) ?_
  refine zR.istore_n (i := 1) (ls' := [(1, .int (iG σ 56 5)), (0, .ref 56)]) dX11_ahead_4 rfl (by decide) rfl ?_
  refine zR.sub [1, 0] rfl ?_
  exact kX11_ahead_5 zF _ _ _ h
theorem lX11_ahead {sc : Nat × (Nat → Int32)} (σ : zS) (w : zS) (h : fX11_ahead σ = some w) : zC (zY0 sc) 2 0 0 mX11_ahead [.ref 56] (zE σ) (none, zE w) := zC.of (by decide +kernel) (Nat.le_of_ble_eq_true rfl) rfl (eX11_ahead σ w h)
theorem dX11_isSign_0 : decode cX11_isSign 0 = .ok (.aload_n 0, 1) := by decide +kernel
theorem dX11_isSign_1 : decode cX11_isSign 1 = .ok (.getfield 20, 3) := by decide +kernel
theorem dX11_isSign_4 : decode cX11_isSign 4 = .ok (.iconst 3, 1) := by decide +kernel
theorem dX11_isSign_5 : decode cX11_isSign 5 = .ok (.if_icmp .ne 15, 3) := by decide +kernel
theorem dX11_isSign_8 : decode cX11_isSign 8 = .ok (.aload_n 0, 1) := by decide +kernel
theorem dX11_isSign_9 : decode cX11_isSign 9 = .ok (.getfield 29, 3) := by decide +kernel
theorem dX11_isSign_12 : decode cX11_isSign 12 = .ok (.iload_n 1, 1) := by decide +kernel
theorem dX11_isSign_13 : decode cX11_isSign 13 = .ok (.if_icmp .ne 7, 3) := by decide +kernel
theorem dX11_isSign_16 : decode cX11_isSign 16 = .ok (.iconst 1, 1) := by decide +kernel
theorem dX11_isSign_17 : decode cX11_isSign 17 = .ok (.goto 4, 3) := by decide +kernel
theorem dX11_isSign_20 : decode cX11_isSign 20 = .ok (.iconst 0, 1) := by decide +kernel
theorem dX11_isSign_21 : decode cX11_isSign 21 = .ok (.ireturn, 1) := by decide +kernel
def fX11_isSign (σ : zS) (p1 : Int32) : Int32 := if (iG σ 56 3) = 3 then if (iG σ 56 6) = p1 then 1 else 0 else 0
theorem eX11_isSign {sc : Nat × (Nat → Int32)} (σ : zS) (p1 : Int32) (w : Int32) (h : fX11_isSign σ p1 = w) : zR (zY0 sc) 1 0 0 mX11_isSign 0 [(0, .ref 56), (1, .int p1)] [] (zE σ) (some (.int w), zE σ) := by
  unfold fX11_isSign at h
  refine kR.aload_n dX11_isSign_0 0 rfl ?_
  refine kR.getI dX11_isSign_1 flX11_20 zcf11 zp56 (Or.inl rfl) ?_
  refine zR.iconst (v := 3) dX11_isSign_4 (by decide) ?_
  refine kR.icmp_ne (tgt := 20) dX11_isSign_5 (by decide) h (fun h => ?_) (fun h => ?_)
  · refine zR.iconst (v := 0) dX11_isSign_20 (by decide) ?_
    exact kR.iret dX11_isSign_21 (nzZ rfl (Or.inl rfl)) h
  · refine kR.aload_n dX11_isSign_8 0 rfl ?_
    refine kR.getI dX11_isSign_9 flX11_29 zcf11 zp56 (Or.inl rfl) ?_
    refine kR.iload_n dX11_isSign_12 1 rfl ?_
    refine kR.icmp_ne (tgt := 20) dX11_isSign_13 (by decide) h (fun h => ?_) (fun h => ?_)
    · refine zR.iconst (v := 0) dX11_isSign_20 (by decide) ?_
      exact kR.iret dX11_isSign_21 (nzZ rfl (Or.inl rfl)) h
    · refine zR.iconst (v := 1) dX11_isSign_16 (by decide) ?_
      refine zR.goto (tgt := 21) dX11_isSign_17 (by decide) ?_
      exact kR.iret dX11_isSign_21 (nzZ rfl (Or.inr rfl)) h
theorem lX11_isSign {sc : Nat × (Nat → Int32)} (σ : zS) (p1 : Int32) : zC (zY0 sc) 1 0 0 mX11_isSign [.ref 56, .int p1] (zE σ) (some (.int (fX11_isSign σ p1)), zE σ) := zC.of (by decide +kernel) (Nat.le_of_ble_eq_true rfl) ⟨_, rfl⟩ (eX11_isSign σ p1 _ rfl)
theorem dX11_isWord_0 : decode cX11_isWord 0 = .ok (.aload_n 0, 1) := by decide +kernel
theorem dX11_isWord_1 : decode cX11_isWord 1 = .ok (.getfield 20, 3) := by decide +kernel
theorem dX11_isWord_4 : decode cX11_isWord 4 = .ok (.iconst 1, 1) := by decide +kernel
theorem dX11_isWord_5 : decode cX11_isWord 5 = .ok (.if_icmp .ne 16, 3) := by decide +kernel
theorem dX11_isWord_8 : decode cX11_isWord 8 = .ok (.aload_n 0, 1) := by decide +kernel
theorem dX11_isWord_9 : decode cX11_isWord 9 = .ok (.getfield 32, 3) := by decide +kernel
theorem dX11_isWord_12 : decode cX11_isWord 12 = .ok (.lload_n 1, 1) := by decide +kernel
theorem dX11_isWord_13 : decode cX11_isWord 13 = .ok (.lcmp, 1) := by decide +kernel
theorem dX11_isWord_14 : decode cX11_isWord 14 = .ok (.ifCond .ne 7, 3) := by decide +kernel
theorem dX11_isWord_17 : decode cX11_isWord 17 = .ok (.iconst 1, 1) := by decide +kernel
theorem dX11_isWord_18 : decode cX11_isWord 18 = .ok (.goto 4, 3) := by decide +kernel
theorem dX11_isWord_21 : decode cX11_isWord 21 = .ok (.iconst 0, 1) := by decide +kernel
theorem dX11_isWord_22 : decode cX11_isWord 22 = .ok (.ireturn, 1) := by decide +kernel
def fX11_isWord (σ : zS) (p1 : Int64) : Int32 := if (iG σ 56 3) = 1 then if (lG σ 56 7) = p1 then 1 else 0 else 0
theorem eX11_isWord {sc : Nat × (Nat → Int32)} (σ : zS) (p1 : Int64) (w : Int32) (h : fX11_isWord σ p1 = w) : zR (zY0 sc) 1 0 0 mX11_isWord 0 [(0, .ref 56), (1, .long p1)] [] (zE σ) (some (.int w), zE σ) := by
  unfold fX11_isWord at h
  refine kR.aload_n dX11_isWord_0 0 rfl ?_
  refine kR.getI dX11_isWord_1 flX11_20 zcf11 zp56 (Or.inl rfl) ?_
  refine zR.iconst (v := 1) dX11_isWord_4 (by decide) ?_
  refine kR.icmp_ne (tgt := 21) dX11_isWord_5 (by decide) h (fun h => ?_) (fun h => ?_)
  · refine zR.iconst (v := 0) dX11_isWord_21 (by decide) ?_
    exact kR.iret dX11_isWord_22 (nzZ rfl (Or.inl rfl)) h
  · refine kR.aload_n dX11_isWord_8 0 rfl ?_
    refine kR.getL dX11_isWord_9 flX11_32 zcf11 zp56 rfl ?_
    refine kR.lload_n dX11_isWord_12 1 rfl ?_
    refine kR.lcmp_ne (tgt := 21) dX11_isWord_13 dX11_isWord_14 (by decide) h (fun h => ?_) (fun h => ?_)
    · refine zR.iconst (v := 0) dX11_isWord_21 (by decide) ?_
      exact kR.iret dX11_isWord_22 (nzZ rfl (Or.inl rfl)) h
    · refine zR.iconst (v := 1) dX11_isWord_17 (by decide) ?_
      refine zR.goto (tgt := 22) dX11_isWord_18 (by decide) ?_
      exact kR.iret dX11_isWord_22 (nzZ rfl (Or.inr rfl)) h
theorem lX11_isWord {sc : Nat × (Nat → Int32)} (σ : zS) (p1 : Int64) : zC (zY0 sc) 1 0 0 mX11_isWord [.ref 56, .long p1] (zE σ) (some (.int (fX11_isWord σ p1)), zE σ) := zC.of (by decide +kernel) (Nat.le_of_ble_eq_true rfl) ⟨_, rfl⟩ (eX11_isWord σ p1 _ rfl)
theorem dX11_must_0 : decode cX11_must 0 = .ok (.aload_n 0, 1) := by decide +kernel
theorem dX11_must_1 : decode cX11_must 1 = .ok (.invokevirtual 271, 3) := by decide +kernel
theorem dX11_must_4 : decode cX11_must 4 = .ok (.aload_n 0, 1) := by decide +kernel
theorem dX11_must_5 : decode cX11_must 5 = .ok (.iload_n 1, 1) := by decide +kernel
theorem dX11_must_6 : decode cX11_must 6 = .ok (.invokevirtual 274, 3) := by decide +kernel
theorem dX11_must_9 : decode cX11_must 9 = .ok (.ifCond .ne 12, 3) := by decide +kernel
theorem dX11_must_12 : decode cX11_must 12 = .ok (.aload_n 0, 1) := by decide +kernel
theorem dX11_must_13 : decode cX11_must 13 = .ok (.iconst 1, 1) := by decide +kernel
theorem dX11_must_14 : decode cX11_must 14 = .ok (.aload_n 0, 1) := by decide +kernel
theorem dX11_must_15 : decode cX11_must 15 = .ok (.getfield 23, 3) := by decide +kernel
theorem dX11_must_18 : decode cX11_must 18 = .ok (.invokevirtual 260, 3) := by decide +kernel
theorem dX11_must_21 : decode cX11_must 21 = .ok (.aload_n 0, 1) := by decide +kernel
theorem dX11_must_22 : decode cX11_must 22 = .ok (.getfield 36, 3) := by decide +kernel
theorem dX11_must_25 : decode cX11_must 25 = .ok (.ifCond .ne 7, 3) := by decide +kernel
theorem dX11_must_28 : decode cX11_must 28 = .ok (.aload_n 0, 1) := by decide +kernel
theorem dX11_must_29 : decode cX11_must 29 = .ok (.invokevirtual 277, 3) := by decide +kernel
theorem dX11_must_32 : decode cX11_must 32 = .ok (.return_, 1) := by decide +kernel
def fX11_must_21 (σ : zS) : Option zS := if (iG σ 56 8) = 0 then bnr (fX11_ahead σ) fun σ3 => some σ3 else some σ
theorem kX11_must_21 {sc : Nat × (Nat → Int32)} (σ : zS) (w : zS) (h : fX11_must_21 σ = some w) : zR (zY0 sc) 3 0 0 mX11_must 21 [(0, .ref 56)] [] (zE σ) (none, zE w) := by
  unfold fX11_must_21 at h
  refine kR.aload_n dX11_must_21 0 rfl ?_
  refine kR.getI dX11_must_22 flX11_36 zcf11 zp56 (Or.inl rfl) ?_
  refine kR.if_ne (tgt := 32) dX11_must_25 (by decide) h (fun h => ?_) (fun h => ?_)
  · exact kR.vret dX11_must_32 h
  · refine kR.aload_n dX11_must_28 0 rfl ?_
    obtain ⟨σ3, e4, h⟩ := bnr_some h
    refine kR.cVv [] dX11_must_29 rfl (by decide) mwX11_277 zp56 (by decide) rfl rfl (Nat.le_of_ble_eq_true rfl) (lX11_ahead σ _ e4) ?_
    exact kR.vret dX11_must_32 h
def fX11_must (p1 : Int32) (σ : zS) : Option zS := bnr (fX11_lex σ) fun σ1 => if (fX11_isSign σ1 p1) = 0 then bnr (fX11_blame 1 (iG σ1 56 4) σ1) fun σ5 => fX11_must_21 σ5 else fX11_must_21 σ1
theorem eX11_must {sc : Nat × (Nat → Int32)} (p1 : Int32) (σ : zS) (w : zS) (h : fX11_must p1 σ = some w) : zR (zY0 sc) 3 0 0 mX11_must 0 [(0, .ref 56), (1, .int p1)] [] (zE σ) (none, zE w) := by
  unfold fX11_must at h
  refine kR.aload_n dX11_must_0 0 rfl ?_
  obtain ⟨σ1, e2, h⟩ := bnr_some h
  refine kR.cVv [] dX11_must_1 rfl (by decide) mwX11_271 zp56 (by decide) rfl rfl (Nat.le_of_ble_eq_true rfl) (lX11_lex σ _ e2) ?_
  refine kR.aload_n dX11_must_4 0 rfl ?_
  refine kR.iload_n dX11_must_5 1 rfl ?_
  refine kR.cVi [.int p1] dX11_must_6 rfl (by decide) mwX11_274 zp56 (by decide) rfl rfl (Nat.le_of_ble_eq_true rfl) (lX11_isSign σ1 p1) ?_
  refine kR.if_ne (tgt := 21) dX11_must_9 (by decide) h (fun h => ?_) (fun h => ?_)
  · refine zR.sub [0] rfl ?_
    exact kX11_must_21 _ _ h
  · refine kR.aload_n dX11_must_12 0 rfl ?_
    refine zR.iconst (v := 1) dX11_must_13 (by decide) ?_
    refine kR.aload_n dX11_must_14 0 rfl ?_
    refine kR.getI dX11_must_15 flX11_23 zcf11 zp56 (Or.inl rfl) ?_
    obtain ⟨σ5, e6, h⟩ := bnr_some h
    refine kR.cVv [.int 1, .int (iG σ1 56 4)] dX11_must_18 rfl (by decide) mwX11_260 zp56 (by decide) rfl rfl (Nat.le_of_ble_eq_true rfl) (lX11_blame 1 (iG σ1 56 4) σ1 _ e6) ?_
    refine zR.sub [0] rfl ?_
    exact kX11_must_21 _ _ h
theorem lX11_must {sc : Nat × (Nat → Int32)} (p1 : Int32) (σ : zS) (w : zS) (h : fX11_must p1 σ = some w) : zC (zY0 sc) 3 0 0 mX11_must [.ref 56, .int p1] (zE σ) (none, zE w) := zC.of (by decide +kernel) (Nat.le_of_ble_eq_true rfl) rfl (eX11_must p1 σ w h)
theorem dX11_isOwn_0 : decode cX11_isOwn 0 = .ok (.lload_n 1, 1) := by decide +kernel
theorem dX11_isOwn_1 : decode cX11_isOwn 1 = .ok (.ldc2_w 280, 3) := by decide +kernel
theorem dX11_isOwn_4 : decode cX11_isOwn 4 = .ok (.lcmp, 1) := by decide +kernel
theorem dX11_isOwn_5 : decode cX11_isOwn 5 = .ok (.ifCond .eq 35, 3) := by decide +kernel
theorem dX11_isOwn_8 : decode cX11_isOwn 8 = .ok (.lload_n 1, 1) := by decide +kernel
theorem dX11_isOwn_9 : decode cX11_isOwn 9 = .ok (.ldc2_w 282, 3) := by decide +kernel
theorem dX11_isOwn_12 : decode cX11_isOwn 12 = .ok (.lcmp, 1) := by decide +kernel
theorem dX11_isOwn_13 : decode cX11_isOwn 13 = .ok (.ifCond .eq 27, 3) := by decide +kernel
theorem dX11_isOwn_16 : decode cX11_isOwn 16 = .ok (.lload_n 1, 1) := by decide +kernel
theorem dX11_isOwn_17 : decode cX11_isOwn 17 = .ok (.ldc2_w 284, 3) := by decide +kernel
theorem dX11_isOwn_20 : decode cX11_isOwn 20 = .ok (.lcmp, 1) := by decide +kernel
theorem dX11_isOwn_21 : decode cX11_isOwn 21 = .ok (.ifCond .eq 19, 3) := by decide +kernel
theorem dX11_isOwn_24 : decode cX11_isOwn 24 = .ok (.lload_n 1, 1) := by decide +kernel
theorem dX11_isOwn_25 : decode cX11_isOwn 25 = .ok (.ldc2_w 286, 3) := by decide +kernel
theorem dX11_isOwn_28 : decode cX11_isOwn 28 = .ok (.lcmp, 1) := by decide +kernel
theorem dX11_isOwn_29 : decode cX11_isOwn 29 = .ok (.ifCond .eq 11, 3) := by decide +kernel
theorem dX11_isOwn_32 : decode cX11_isOwn 32 = .ok (.lload_n 1, 1) := by decide +kernel
theorem dX11_isOwn_33 : decode cX11_isOwn 33 = .ok (.ldc2_w 288, 3) := by decide +kernel
theorem dX11_isOwn_36 : decode cX11_isOwn 36 = .ok (.lcmp, 1) := by decide +kernel
theorem dX11_isOwn_37 : decode cX11_isOwn 37 = .ok (.ifCond .ne 5, 3) := by decide +kernel
theorem dX11_isOwn_40 : decode cX11_isOwn 40 = .ok (.iconst 1, 1) := by decide +kernel
theorem dX11_isOwn_41 : decode cX11_isOwn 41 = .ok (.ireturn, 1) := by decide +kernel
theorem dX11_isOwn_42 : decode cX11_isOwn 42 = .ok (.lload_n 1, 1) := by decide +kernel
theorem dX11_isOwn_43 : decode cX11_isOwn 43 = .ok (.ldc2_w 290, 3) := by decide +kernel
theorem dX11_isOwn_46 : decode cX11_isOwn 46 = .ok (.lcmp, 1) := by decide +kernel
theorem dX11_isOwn_47 : decode cX11_isOwn 47 = .ok (.ifCond .eq 35, 3) := by decide +kernel
theorem dX11_isOwn_50 : decode cX11_isOwn 50 = .ok (.lload_n 1, 1) := by decide +kernel
theorem dX11_isOwn_51 : decode cX11_isOwn 51 = .ok (.ldc2_w 292, 3) := by decide +kernel
theorem dX11_isOwn_54 : decode cX11_isOwn 54 = .ok (.lcmp, 1) := by decide +kernel
theorem dX11_isOwn_55 : decode cX11_isOwn 55 = .ok (.ifCond .eq 27, 3) := by decide +kernel
theorem dX11_isOwn_58 : decode cX11_isOwn 58 = .ok (.lload_n 1, 1) := by decide +kernel
theorem dX11_isOwn_59 : decode cX11_isOwn 59 = .ok (.ldc2_w 294, 3) := by decide +kernel
theorem dX11_isOwn_62 : decode cX11_isOwn 62 = .ok (.lcmp, 1) := by decide +kernel
theorem dX11_isOwn_63 : decode cX11_isOwn 63 = .ok (.ifCond .eq 19, 3) := by decide +kernel
theorem dX11_isOwn_66 : decode cX11_isOwn 66 = .ok (.lload_n 1, 1) := by decide +kernel
theorem dX11_isOwn_67 : decode cX11_isOwn 67 = .ok (.ldc2_w 296, 3) := by decide +kernel
theorem dX11_isOwn_70 : decode cX11_isOwn 70 = .ok (.lcmp, 1) := by decide +kernel
theorem dX11_isOwn_71 : decode cX11_isOwn 71 = .ok (.ifCond .eq 11, 3) := by decide +kernel
theorem dX11_isOwn_74 : decode cX11_isOwn 74 = .ok (.lload_n 1, 1) := by decide +kernel
theorem dX11_isOwn_75 : decode cX11_isOwn 75 = .ok (.ldc2_w 298, 3) := by decide +kernel
theorem dX11_isOwn_78 : decode cX11_isOwn 78 = .ok (.lcmp, 1) := by decide +kernel
theorem dX11_isOwn_79 : decode cX11_isOwn 79 = .ok (.ifCond .ne 5, 3) := by decide +kernel
theorem dX11_isOwn_82 : decode cX11_isOwn 82 = .ok (.iconst 1, 1) := by decide +kernel
theorem dX11_isOwn_83 : decode cX11_isOwn 83 = .ok (.ireturn, 1) := by decide +kernel
theorem dX11_isOwn_84 : decode cX11_isOwn 84 = .ok (.lload_n 1, 1) := by decide +kernel
theorem dX11_isOwn_85 : decode cX11_isOwn 85 = .ok (.ldc2_w 300, 3) := by decide +kernel
theorem dX11_isOwn_88 : decode cX11_isOwn 88 = .ok (.lcmp, 1) := by decide +kernel
theorem dX11_isOwn_89 : decode cX11_isOwn 89 = .ok (.ifCond .eq 35, 3) := by decide +kernel
theorem dX11_isOwn_92 : decode cX11_isOwn 92 = .ok (.lload_n 1, 1) := by decide +kernel
theorem dX11_isOwn_93 : decode cX11_isOwn 93 = .ok (.ldc2_w 302, 3) := by decide +kernel
theorem dX11_isOwn_96 : decode cX11_isOwn 96 = .ok (.lcmp, 1) := by decide +kernel
theorem dX11_isOwn_97 : decode cX11_isOwn 97 = .ok (.ifCond .eq 27, 3) := by decide +kernel
theorem dX11_isOwn_100 : decode cX11_isOwn 100 = .ok (.lload_n 1, 1) := by decide +kernel
theorem dX11_isOwn_101 : decode cX11_isOwn 101 = .ok (.ldc2_w 304, 3) := by decide +kernel
theorem dX11_isOwn_104 : decode cX11_isOwn 104 = .ok (.lcmp, 1) := by decide +kernel
theorem dX11_isOwn_105 : decode cX11_isOwn 105 = .ok (.ifCond .eq 19, 3) := by decide +kernel
theorem dX11_isOwn_108 : decode cX11_isOwn 108 = .ok (.lload_n 1, 1) := by decide +kernel
theorem dX11_isOwn_109 : decode cX11_isOwn 109 = .ok (.ldc2_w 306, 3) := by decide +kernel
theorem dX11_isOwn_112 : decode cX11_isOwn 112 = .ok (.lcmp, 1) := by decide +kernel
theorem dX11_isOwn_113 : decode cX11_isOwn 113 = .ok (.ifCond .eq 11, 3) := by decide +kernel
theorem dX11_isOwn_116 : decode cX11_isOwn 116 = .ok (.lload_n 1, 1) := by decide +kernel
theorem dX11_isOwn_117 : decode cX11_isOwn 117 = .ok (.ldc2_w 308, 3) := by decide +kernel
theorem dX11_isOwn_120 : decode cX11_isOwn 120 = .ok (.lcmp, 1) := by decide +kernel
theorem dX11_isOwn_121 : decode cX11_isOwn 121 = .ok (.ifCond .ne 5, 3) := by decide +kernel
theorem dX11_isOwn_124 : decode cX11_isOwn 124 = .ok (.iconst 1, 1) := by decide +kernel
theorem dX11_isOwn_125 : decode cX11_isOwn 125 = .ok (.ireturn, 1) := by decide +kernel
theorem dX11_isOwn_126 : decode cX11_isOwn 126 = .ok (.lload_n 1, 1) := by decide +kernel
theorem dX11_isOwn_127 : decode cX11_isOwn 127 = .ok (.ldc2_w 310, 3) := by decide +kernel
theorem dX11_isOwn_130 : decode cX11_isOwn 130 = .ok (.lcmp, 1) := by decide +kernel
theorem dX11_isOwn_131 : decode cX11_isOwn 131 = .ok (.ifCond .eq 35, 3) := by decide +kernel
theorem dX11_isOwn_134 : decode cX11_isOwn 134 = .ok (.lload_n 1, 1) := by decide +kernel
theorem dX11_isOwn_135 : decode cX11_isOwn 135 = .ok (.ldc2_w 312, 3) := by decide +kernel
theorem dX11_isOwn_138 : decode cX11_isOwn 138 = .ok (.lcmp, 1) := by decide +kernel
theorem dX11_isOwn_139 : decode cX11_isOwn 139 = .ok (.ifCond .eq 27, 3) := by decide +kernel
theorem dX11_isOwn_142 : decode cX11_isOwn 142 = .ok (.lload_n 1, 1) := by decide +kernel
theorem dX11_isOwn_143 : decode cX11_isOwn 143 = .ok (.ldc2_w 314, 3) := by decide +kernel
theorem dX11_isOwn_146 : decode cX11_isOwn 146 = .ok (.lcmp, 1) := by decide +kernel
theorem dX11_isOwn_147 : decode cX11_isOwn 147 = .ok (.ifCond .eq 19, 3) := by decide +kernel
theorem dX11_isOwn_150 : decode cX11_isOwn 150 = .ok (.lload_n 1, 1) := by decide +kernel
theorem dX11_isOwn_151 : decode cX11_isOwn 151 = .ok (.ldc2_w 316, 3) := by decide +kernel
theorem dX11_isOwn_154 : decode cX11_isOwn 154 = .ok (.lcmp, 1) := by decide +kernel
theorem dX11_isOwn_155 : decode cX11_isOwn 155 = .ok (.ifCond .eq 11, 3) := by decide +kernel
theorem dX11_isOwn_158 : decode cX11_isOwn 158 = .ok (.lload_n 1, 1) := by decide +kernel
theorem dX11_isOwn_159 : decode cX11_isOwn 159 = .ok (.ldc2_w 318, 3) := by decide +kernel
theorem dX11_isOwn_162 : decode cX11_isOwn 162 = .ok (.lcmp, 1) := by decide +kernel
theorem dX11_isOwn_163 : decode cX11_isOwn 163 = .ok (.ifCond .ne 5, 3) := by decide +kernel
theorem dX11_isOwn_166 : decode cX11_isOwn 166 = .ok (.iconst 1, 1) := by decide +kernel
theorem dX11_isOwn_167 : decode cX11_isOwn 167 = .ok (.ireturn, 1) := by decide +kernel
theorem dX11_isOwn_168 : decode cX11_isOwn 168 = .ok (.lload_n 1, 1) := by decide +kernel
theorem dX11_isOwn_169 : decode cX11_isOwn 169 = .ok (.ldc2_w 320, 3) := by decide +kernel
theorem dX11_isOwn_172 : decode cX11_isOwn 172 = .ok (.lcmp, 1) := by decide +kernel
theorem dX11_isOwn_173 : decode cX11_isOwn 173 = .ok (.ifCond .eq 35, 3) := by decide +kernel
theorem dX11_isOwn_176 : decode cX11_isOwn 176 = .ok (.lload_n 1, 1) := by decide +kernel
theorem dX11_isOwn_177 : decode cX11_isOwn 177 = .ok (.ldc2_w 322, 3) := by decide +kernel
theorem dX11_isOwn_180 : decode cX11_isOwn 180 = .ok (.lcmp, 1) := by decide +kernel
theorem dX11_isOwn_181 : decode cX11_isOwn 181 = .ok (.ifCond .eq 27, 3) := by decide +kernel
theorem dX11_isOwn_184 : decode cX11_isOwn 184 = .ok (.lload_n 1, 1) := by decide +kernel
theorem dX11_isOwn_185 : decode cX11_isOwn 185 = .ok (.ldc2_w 324, 3) := by decide +kernel
theorem dX11_isOwn_188 : decode cX11_isOwn 188 = .ok (.lcmp, 1) := by decide +kernel
theorem dX11_isOwn_189 : decode cX11_isOwn 189 = .ok (.ifCond .eq 19, 3) := by decide +kernel
theorem dX11_isOwn_192 : decode cX11_isOwn 192 = .ok (.lload_n 1, 1) := by decide +kernel
theorem dX11_isOwn_193 : decode cX11_isOwn 193 = .ok (.ldc2_w 326, 3) := by decide +kernel
theorem dX11_isOwn_196 : decode cX11_isOwn 196 = .ok (.lcmp, 1) := by decide +kernel
theorem dX11_isOwn_197 : decode cX11_isOwn 197 = .ok (.ifCond .eq 11, 3) := by decide +kernel
theorem dX11_isOwn_200 : decode cX11_isOwn 200 = .ok (.lload_n 1, 1) := by decide +kernel
theorem dX11_isOwn_201 : decode cX11_isOwn 201 = .ok (.ldc2_w 328, 3) := by decide +kernel
theorem dX11_isOwn_204 : decode cX11_isOwn 204 = .ok (.lcmp, 1) := by decide +kernel
theorem dX11_isOwn_205 : decode cX11_isOwn 205 = .ok (.ifCond .ne 5, 3) := by decide +kernel
theorem dX11_isOwn_208 : decode cX11_isOwn 208 = .ok (.iconst 1, 1) := by decide +kernel
theorem dX11_isOwn_209 : decode cX11_isOwn 209 = .ok (.ireturn, 1) := by decide +kernel
theorem dX11_isOwn_210 : decode cX11_isOwn 210 = .ok (.iconst 0, 1) := by decide +kernel
theorem dX11_isOwn_211 : decode cX11_isOwn 211 = .ok (.ireturn, 1) := by decide +kernel
def fX11_isOwn (p1 : Int64) : Int32 := if p1 = 128047712724332 then 1 else if p1 = 6775152 then 1 else if p1 = 24948 then 1 else if p1 = 131277443786867 then 1 else if p1 = 114827769177458 then 1 else if p1 = 108243466679400 then 1 else if p1 = 119165837338739 then 1 else if p1 = 127991794264947 then 1 else if p1 = 444150998387 then 1 else if p1 = 512970880104 then 1 else if p1 = 499985311091 then 1 else if p1 = 1936024942 then 1 else if p1 = 1718185573 then 1 else if p1 = 1751477348 then 1 else if p1 = 1819242087 then 1 else if p1 = 1835099237 then 1 else if p1 = 1818325876 then 1 else if p1 = 108187566237038 then 1 else if p1 = 26982 then 1 else if p1 = 28530 then 1 else if p1 = 6385252 then 1 else if p1 = 7237492 then 1 else if p1 = 6384748 then 1 else if p1 = 7170414 then 1 else if p1 = 7168376 then 1 else 0
theorem eX11_isOwn {sc : Nat × (Nat → Int32)} {μ : zM} (p1 : Int64) (w : Int32) (h : fX11_isOwn p1 = w) : zR (zY0 sc) 1 0 0 mX11_isOwn 0 [(0, .ref 56), (1, .long p1)] [] μ (some (.int w), μ) := by
  unfold fX11_isOwn at h
  refine kR.lload_n dX11_isOwn_0 1 rfl ?_
  refine zR.ldc2 (v := 128047712724332) dX11_isOwn_1 clX11_280 ?_
  refine kR.lcmp_eq (tgt := 40) dX11_isOwn_4 dX11_isOwn_5 (by decide) h (fun h => ?_) (fun h => ?_)
  · refine zR.iconst (v := 1) dX11_isOwn_40 (by decide) ?_
    exact kR.iret dX11_isOwn_41 (nzZ rfl (Or.inr rfl)) h
  · refine kR.lload_n dX11_isOwn_8 1 rfl ?_
    refine zR.ldc2 (v := 6775152) dX11_isOwn_9 clX11_282 ?_
    refine kR.lcmp_eq (tgt := 40) dX11_isOwn_12 dX11_isOwn_13 (by decide) h (fun h => ?_) (fun h => ?_)
    · refine zR.iconst (v := 1) dX11_isOwn_40 (by decide) ?_
      exact kR.iret dX11_isOwn_41 (nzZ rfl (Or.inr rfl)) h
    · refine kR.lload_n dX11_isOwn_16 1 rfl ?_
      refine zR.ldc2 (v := 24948) dX11_isOwn_17 clX11_284 ?_
      refine kR.lcmp_eq (tgt := 40) dX11_isOwn_20 dX11_isOwn_21 (by decide) h (fun h => ?_) (fun h => ?_)
      · refine zR.iconst (v := 1) dX11_isOwn_40 (by decide) ?_
        exact kR.iret dX11_isOwn_41 (nzZ rfl (Or.inr rfl)) h
      · refine kR.lload_n dX11_isOwn_24 1 rfl ?_
        refine zR.ldc2 (v := 131277443786867) dX11_isOwn_25 clX11_286 ?_
        refine kR.lcmp_eq (tgt := 40) dX11_isOwn_28 dX11_isOwn_29 (by decide) h (fun h => ?_) (fun h => ?_)
        · refine zR.iconst (v := 1) dX11_isOwn_40 (by decide) ?_
          exact kR.iret dX11_isOwn_41 (nzZ rfl (Or.inr rfl)) h
        · refine kR.lload_n dX11_isOwn_32 1 rfl ?_
          refine zR.ldc2 (v := 114827769177458) dX11_isOwn_33 clX11_288 ?_
          refine kR.lcmp_ne (tgt := 42) dX11_isOwn_36 dX11_isOwn_37 (by decide) h (fun h => ?_) (fun h => ?_)
          · refine kR.lload_n dX11_isOwn_42 1 rfl ?_
            refine zR.ldc2 (v := 108243466679400) dX11_isOwn_43 clX11_290 ?_
            refine kR.lcmp_eq (tgt := 82) dX11_isOwn_46 dX11_isOwn_47 (by decide) h (fun h => ?_) (fun h => ?_)
            · refine zR.iconst (v := 1) dX11_isOwn_82 (by decide) ?_
              exact kR.iret dX11_isOwn_83 (nzZ rfl (Or.inr rfl)) h
            · refine kR.lload_n dX11_isOwn_50 1 rfl ?_
              refine zR.ldc2 (v := 119165837338739) dX11_isOwn_51 clX11_292 ?_
              refine kR.lcmp_eq (tgt := 82) dX11_isOwn_54 dX11_isOwn_55 (by decide) h (fun h => ?_) (fun h => ?_)
              · refine zR.iconst (v := 1) dX11_isOwn_82 (by decide) ?_
                exact kR.iret dX11_isOwn_83 (nzZ rfl (Or.inr rfl)) h
              · refine kR.lload_n dX11_isOwn_58 1 rfl ?_
                refine zR.ldc2 (v := 127991794264947) dX11_isOwn_59 clX11_294 ?_
                refine kR.lcmp_eq (tgt := 82) dX11_isOwn_62 dX11_isOwn_63 (by decide) h (fun h => ?_) (fun h => ?_)
                · refine zR.iconst (v := 1) dX11_isOwn_82 (by decide) ?_
                  exact kR.iret dX11_isOwn_83 (nzZ rfl (Or.inr rfl)) h
                · refine kR.lload_n dX11_isOwn_66 1 rfl ?_
                  refine zR.ldc2 (v := 444150998387) dX11_isOwn_67 clX11_296 ?_
                  refine kR.lcmp_eq (tgt := 82) dX11_isOwn_70 dX11_isOwn_71 (by decide) h (fun h => ?_) (fun h => ?_)
                  · refine zR.iconst (v := 1) dX11_isOwn_82 (by decide) ?_
                    exact kR.iret dX11_isOwn_83 (nzZ rfl (Or.inr rfl)) h
                  · refine kR.lload_n dX11_isOwn_74 1 rfl ?_
                    refine zR.ldc2 (v := 512970880104) dX11_isOwn_75 clX11_298 ?_
                    refine kR.lcmp_ne (tgt := 84) dX11_isOwn_78 dX11_isOwn_79 (by decide) h (fun h => ?_) (fun h => ?_)
                    · refine kR.lload_n dX11_isOwn_84 1 rfl ?_
                      refine zR.ldc2 (v := 499985311091) dX11_isOwn_85 clX11_300 ?_
                      refine kR.lcmp_eq (tgt := 124) dX11_isOwn_88 dX11_isOwn_89 (by decide) h (fun h => ?_) (fun h => ?_)
                      · refine zR.iconst (v := 1) dX11_isOwn_124 (by decide) ?_
                        exact kR.iret dX11_isOwn_125 (nzZ rfl (Or.inr rfl)) h
                      · refine kR.lload_n dX11_isOwn_92 1 rfl ?_
                        refine zR.ldc2 (v := 1936024942) dX11_isOwn_93 clX11_302 ?_
                        refine kR.lcmp_eq (tgt := 124) dX11_isOwn_96 dX11_isOwn_97 (by decide) h (fun h => ?_) (fun h => ?_)
                        · refine zR.iconst (v := 1) dX11_isOwn_124 (by decide) ?_
                          exact kR.iret dX11_isOwn_125 (nzZ rfl (Or.inr rfl)) h
                        · refine kR.lload_n dX11_isOwn_100 1 rfl ?_
                          refine zR.ldc2 (v := 1718185573) dX11_isOwn_101 clX11_304 ?_
                          refine kR.lcmp_eq (tgt := 124) dX11_isOwn_104 dX11_isOwn_105 (by decide) h (fun h => ?_) (fun h => ?_)
                          · refine zR.iconst (v := 1) dX11_isOwn_124 (by decide) ?_
                            exact kR.iret dX11_isOwn_125 (nzZ rfl (Or.inr rfl)) h
                          · refine kR.lload_n dX11_isOwn_108 1 rfl ?_
                            refine zR.ldc2 (v := 1751477348) dX11_isOwn_109 clX11_306 ?_
                            refine kR.lcmp_eq (tgt := 124) dX11_isOwn_112 dX11_isOwn_113 (by decide) h (fun h => ?_) (fun h => ?_)
                            · refine zR.iconst (v := 1) dX11_isOwn_124 (by decide) ?_
                              exact kR.iret dX11_isOwn_125 (nzZ rfl (Or.inr rfl)) h
                            · refine kR.lload_n dX11_isOwn_116 1 rfl ?_
                              refine zR.ldc2 (v := 1819242087) dX11_isOwn_117 clX11_308 ?_
                              refine kR.lcmp_ne (tgt := 126) dX11_isOwn_120 dX11_isOwn_121 (by decide) h (fun h => ?_) (fun h => ?_)
                              · refine kR.lload_n dX11_isOwn_126 1 rfl ?_
                                refine zR.ldc2 (v := 1835099237) dX11_isOwn_127 clX11_310 ?_
                                refine kR.lcmp_eq (tgt := 166) dX11_isOwn_130 dX11_isOwn_131 (by decide) h (fun h => ?_) (fun h => ?_)
                                · refine zR.iconst (v := 1) dX11_isOwn_166 (by decide) ?_
                                  exact kR.iret dX11_isOwn_167 (nzZ rfl (Or.inr rfl)) h
                                · refine kR.lload_n dX11_isOwn_134 1 rfl ?_
                                  refine zR.ldc2 (v := 1818325876) dX11_isOwn_135 clX11_312 ?_
                                  refine kR.lcmp_eq (tgt := 166) dX11_isOwn_138 dX11_isOwn_139 (by decide) h (fun h => ?_) (fun h => ?_)
                                  · refine zR.iconst (v := 1) dX11_isOwn_166 (by decide) ?_
                                    exact kR.iret dX11_isOwn_167 (nzZ rfl (Or.inr rfl)) h
                                  · refine kR.lload_n dX11_isOwn_142 1 rfl ?_
                                    refine zR.ldc2 (v := 108187566237038) dX11_isOwn_143 clX11_314 ?_
                                    refine kR.lcmp_eq (tgt := 166) dX11_isOwn_146 dX11_isOwn_147 (by decide) h (fun h => ?_) (fun h => ?_)
                                    · refine zR.iconst (v := 1) dX11_isOwn_166 (by decide) ?_
                                      exact kR.iret dX11_isOwn_167 (nzZ rfl (Or.inr rfl)) h
                                    · refine kR.lload_n dX11_isOwn_150 1 rfl ?_
                                      refine zR.ldc2 (v := 26982) dX11_isOwn_151 clX11_316 ?_
                                      refine kR.lcmp_eq (tgt := 166) dX11_isOwn_154 dX11_isOwn_155 (by decide) h (fun h => ?_) (fun h => ?_)
                                      · refine zR.iconst (v := 1) dX11_isOwn_166 (by decide) ?_
                                        exact kR.iret dX11_isOwn_167 (nzZ rfl (Or.inr rfl)) h
                                      · refine kR.lload_n dX11_isOwn_158 1 rfl ?_
                                        refine zR.ldc2 (v := 28530) dX11_isOwn_159 clX11_318 ?_
                                        refine kR.lcmp_ne (tgt := 168) dX11_isOwn_162 dX11_isOwn_163 (by decide) h (fun h => ?_) (fun h => ?_)
                                        · refine kR.lload_n dX11_isOwn_168 1 rfl ?_
                                          refine zR.ldc2 (v := 6385252) dX11_isOwn_169 clX11_320 ?_
                                          refine kR.lcmp_eq (tgt := 208) dX11_isOwn_172 dX11_isOwn_173 (by decide) h (fun h => ?_) (fun h => ?_)
                                          · refine zR.iconst (v := 1) dX11_isOwn_208 (by decide) ?_
                                            exact kR.iret dX11_isOwn_209 (nzZ rfl (Or.inr rfl)) h
                                          · refine kR.lload_n dX11_isOwn_176 1 rfl ?_
                                            refine zR.ldc2 (v := 7237492) dX11_isOwn_177 clX11_322 ?_
                                            refine kR.lcmp_eq (tgt := 208) dX11_isOwn_180 dX11_isOwn_181 (by decide) h (fun h => ?_) (fun h => ?_)
                                            · refine zR.iconst (v := 1) dX11_isOwn_208 (by decide) ?_
                                              exact kR.iret dX11_isOwn_209 (nzZ rfl (Or.inr rfl)) h
                                            · refine kR.lload_n dX11_isOwn_184 1 rfl ?_
                                              refine zR.ldc2 (v := 6384748) dX11_isOwn_185 clX11_324 ?_
                                              refine kR.lcmp_eq (tgt := 208) dX11_isOwn_188 dX11_isOwn_189 (by decide) h (fun h => ?_) (fun h => ?_)
                                              · refine zR.iconst (v := 1) dX11_isOwn_208 (by decide) ?_
                                                exact kR.iret dX11_isOwn_209 (nzZ rfl (Or.inr rfl)) h
                                              · refine kR.lload_n dX11_isOwn_192 1 rfl ?_
                                                refine zR.ldc2 (v := 7170414) dX11_isOwn_193 clX11_326 ?_
                                                refine kR.lcmp_eq (tgt := 208) dX11_isOwn_196 dX11_isOwn_197 (by decide) h (fun h => ?_) (fun h => ?_)
                                                · refine zR.iconst (v := 1) dX11_isOwn_208 (by decide) ?_
                                                  exact kR.iret dX11_isOwn_209 (nzZ rfl (Or.inr rfl)) h
                                                · refine kR.lload_n dX11_isOwn_200 1 rfl ?_
                                                  refine zR.ldc2 (v := 7168376) dX11_isOwn_201 clX11_328 ?_
                                                  refine kR.lcmp_ne (tgt := 210) dX11_isOwn_204 dX11_isOwn_205 (by decide) h (fun h => ?_) (fun h => ?_)
                                                  · refine zR.iconst (v := 0) dX11_isOwn_210 (by decide) ?_
                                                    exact kR.iret dX11_isOwn_211 (nzZ rfl (Or.inl rfl)) h
                                                  · refine zR.iconst (v := 1) dX11_isOwn_208 (by decide) ?_
                                                    exact kR.iret dX11_isOwn_209 (nzZ rfl (Or.inr rfl)) h
                                        · refine zR.iconst (v := 1) dX11_isOwn_166 (by decide) ?_
                                          exact kR.iret dX11_isOwn_167 (nzZ rfl (Or.inr rfl)) h
                              · refine zR.iconst (v := 1) dX11_isOwn_124 (by decide) ?_
                                exact kR.iret dX11_isOwn_125 (nzZ rfl (Or.inr rfl)) h
                    · refine zR.iconst (v := 1) dX11_isOwn_82 (by decide) ?_
                      exact kR.iret dX11_isOwn_83 (nzZ rfl (Or.inr rfl)) h
          · refine zR.iconst (v := 1) dX11_isOwn_40 (by decide) ?_
            exact kR.iret dX11_isOwn_41 (nzZ rfl (Or.inr rfl)) h
theorem lX11_isOwn {sc : Nat × (Nat → Int32)} {μ : zM} (p1 : Int64) : zC (zY0 sc) 1 0 0 mX11_isOwn [.ref 56, .long p1] μ (some (.int (fX11_isOwn p1)), μ) := zC.of (by decide +kernel) (Nat.le_of_ble_eq_true rfl) ⟨_, rfl⟩ (eX11_isOwn p1 _ rfl)
theorem dX11_manyOf_0 : decode cX11_manyOf 0 = .ok (.iload_n 2, 1) := by decide +kernel
theorem dX11_manyOf_1 : decode cX11_manyOf 1 = .ok (.ifCond .ne 12, 3) := by decide +kernel
theorem dX11_manyOf_4 : decode cX11_manyOf 4 = .ok (.aload_n 0, 1) := by decide +kernel
theorem dX11_manyOf_5 : decode cX11_manyOf 5 = .ok (.getfield 54, 3) := by decide +kernel
theorem dX11_manyOf_8 : decode cX11_manyOf 8 = .ok (.iload_n 1, 1) := by decide +kernel
theorem dX11_manyOf_9 : decode cX11_manyOf 9 = .ok (.iaload, 1) := by decide +kernel
theorem dX11_manyOf_10 : decode cX11_manyOf 10 = .ok (.goto 9, 3) := by decide +kernel
theorem dX11_manyOf_13 : decode cX11_manyOf 13 = .ok (.aload_n 0, 1) := by decide +kernel
theorem dX11_manyOf_14 : decode cX11_manyOf 14 = .ok (.getfield 69, 3) := by decide +kernel
theorem dX11_manyOf_17 : decode cX11_manyOf 17 = .ok (.iload_n 1, 1) := by decide +kernel
theorem dX11_manyOf_18 : decode cX11_manyOf 18 = .ok (.iaload, 1) := by decide +kernel
theorem dX11_manyOf_19 : decode cX11_manyOf 19 = .ok (.ireturn, 1) := by decide +kernel
def fX11_manyOf (σ : zS) (p1 : Int32) (p2 : Int32) : Option Int32 := if p2 = 0 then aI σ 58 2 p1 fun v2 => some v2 else aI σ 63 2 p1 fun v1 => some v1
theorem eX11_manyOf {sc : Nat × (Nat → Int32)} (σ : zS) (p1 : Int32) (p2 : Int32) (w : Int32) (h : fX11_manyOf σ p1 p2 = some w) : zR (zY0 sc) 1 0 0 mX11_manyOf 0 [(0, .ref 56), (1, .int p1), (2, .int p2)] [] (zE σ) (some (.int w), zE σ) := by
  unfold fX11_manyOf at h
  refine kR.iload_n dX11_manyOf_0 2 rfl ?_
  refine kR.if_ne (tgt := 13) dX11_manyOf_1 (by decide) h (fun h => ?_) (fun h => ?_)
  · refine kR.aload_n dX11_manyOf_13 0 rfl ?_
    refine kR.getR (v := 63) dX11_manyOf_14 flX11_69 zcf11 zp56 (Or.inr ⟨_, rfl⟩) rfl ?_
    refine kR.iload_n dX11_manyOf_17 1 rfl ?_
    refine kR.iald dX11_manyOf_18 zp63 rfl h (fun v1 h => ?_)
    exact kR.iretO dX11_manyOf_19 (nzI rfl _) h
  · refine kR.aload_n dX11_manyOf_4 0 rfl ?_
    refine kR.getR (v := 58) dX11_manyOf_5 flX11_54 zcf11 zp56 (Or.inr ⟨_, rfl⟩) rfl ?_
    refine kR.iload_n dX11_manyOf_8 1 rfl ?_
    refine kR.iald dX11_manyOf_9 zp58 rfl h (fun v2 h => ?_)
    refine zR.goto (tgt := 19) dX11_manyOf_10 (by decide) ?_
    exact kR.iretO dX11_manyOf_19 (nzI rfl _) h
theorem lX11_manyOf {sc : Nat × (Nat → Int32)} (σ : zS) (p1 : Int32) (p2 : Int32) (w : Int32) (h : fX11_manyOf σ p1 p2 = some w) : zC (zY0 sc) 1 0 0 mX11_manyOf [.ref 56, .int p1, .int p2] (zE σ) (some (.int w), zE σ) := zC.of (by decide +kernel) (Nat.le_of_ble_eq_true rfl) ⟨_, rfl⟩ (eX11_manyOf σ p1 p2 w h)

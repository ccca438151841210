/-! MY OWN (by program): X11_counts, X11_must_, X11_fresh, X11_asked, X11_tunnelling, X11_holdering, X11_thinking, X11_giving, X11_worthing, X11_tiring, X11_telling, X11_statement -/
theorem dX11_counts_0 : decode cX11_counts 0 = .ok (.aload_n 0, 1) := by decide +kernel
theorem dX11_counts_1 : decode cX11_counts 1 = .ok (.getfield 36, 3) := by decide +kernel
theorem dX11_counts_4 : decode cX11_counts 4 = .ok (.ifCond .ne 17, 3) := by decide +kernel
theorem dX11_counts_7 : decode cX11_counts 7 = .ok (.iload_n 1, 1) := by decide +kernel
theorem dX11_counts_8 : decode cX11_counts 8 = .ok (.ifCond .eq 13, 3) := by decide +kernel
theorem dX11_counts_11 : decode cX11_counts 11 = .ok (.aload_n 0, 1) := by decide +kernel
theorem dX11_counts_12 : decode cX11_counts 12 = .ok (.bipush 6, 2) := by decide +kernel
theorem dX11_counts_14 : decode cX11_counts 14 = .ok (.aload_n 0, 1) := by decide +kernel
theorem dX11_counts_15 : decode cX11_counts 15 = .ok (.getfield 23, 3) := by decide +kernel
theorem dX11_counts_18 : decode cX11_counts 18 = .ok (.invokevirtual 260, 3) := by decide +kernel
theorem dX11_counts_21 : decode cX11_counts 21 = .ok (.aload_n 0, 1) := by decide +kernel
theorem dX11_counts_22 : decode cX11_counts 22 = .ok (.getfield 36, 3) := by decide +kernel
theorem dX11_counts_25 : decode cX11_counts 25 = .ok (.ifCond .ne 7, 3) := by decide +kernel
theorem dX11_counts_28 : decode cX11_counts 28 = .ok (.aload_n 0, 1) := by decide +kernel
theorem dX11_counts_29 : decode cX11_counts 29 = .ok (.invokevirtual 277, 3) := by decide +kernel
theorem dX11_counts_32 : decode cX11_counts 32 = .ok (.aload_n 0, 1) := by decide +kernel
theorem dX11_counts_33 : decode cX11_counts 33 = .ok (.getfield 36, 3) := by decide +kernel
theorem dX11_counts_36 : decode cX11_counts 36 = .ok (.ifCond .ne 7, 3) := by decide +kernel
theorem dX11_counts_39 : decode cX11_counts 39 = .ok (.iconst 1, 1) := by decide +kernel
theorem dX11_counts_40 : decode cX11_counts 40 = .ok (.goto 4, 3) := by decide +kernel
theorem dX11_counts_43 : decode cX11_counts 43 = .ok (.iconst 0, 1) := by decide +kernel
theorem dX11_counts_44 : decode cX11_counts 44 = .ok (.ireturn, 1) := by decide +kernel
def fX11_counts_32 (σ : zS) : Option (Int32 × zS) := if (iG σ 56 8) = 0 then some (1, σ) else some (0, σ)
theorem kX11_counts_32 {sc : Nat × (Nat → Int32)} (σ : zS) (w : Int32 × zS) (h : fX11_counts_32 σ = some w) : zR (zY0 sc) 3 0 0 mX11_counts 32 [(0, .ref 56)] [] (zE σ) (some (.int w.1), zE w.2) := by
  unfold fX11_counts_32 at h
  refine kR.aload_n dX11_counts_32 0 rfl ?_
  refine kR.getI dX11_counts_33 flX11_36 zcf11 zp56 (Or.inl rfl) ?_
  refine kR.if_ne (tgt := 43) dX11_counts_36 (by decide) h (fun h => ?_) (fun h => ?_)
  · refine zR.iconst (v := 0) dX11_counts_43 (by decide) ?_
    exact kR.iretW dX11_counts_44 (nzZ rfl (Or.inl rfl)) h
  · refine zR.iconst (v := 1) dX11_counts_39 (by decide) ?_
    refine zR.goto (tgt := 44) dX11_counts_40 (by decide) ?_
    exact kR.iretW dX11_counts_44 (nzZ rfl (Or.inr rfl)) h
def fX11_counts_21 (σ : zS) : Option (Int32 × zS) := if (iG σ 56 8) = 0 then bnr (fX11_ahead σ) fun σ1 => fX11_counts_32 σ1 else fX11_counts_32 σ
theorem kX11_counts_21 {sc : Nat × (Nat → Int32)} (σ : zS) (w : Int32 × zS) (h : fX11_counts_21 σ = some w) : zR (zY0 sc) 3 0 0 mX11_counts 21 [(0, .ref 56)] [] (zE σ) (some (.int w.1), zE w.2) := by
  unfold fX11_counts_21 at h
  refine kR.aload_n dX11_counts_21 0 rfl ?_
  refine kR.getI dX11_counts_22 flX11_36 zcf11 zp56 (Or.inl rfl) ?_
  refine kR.if_ne (tgt := 32) dX11_counts_25 (by decide) h (fun h => ?_) (fun h => ?_)
  · exact kX11_counts_32 _ _ h
  · refine kR.aload_n dX11_counts_28 0 rfl ?_
    obtain ⟨σ1, e2, h⟩ := bnr_some h
    refine kR.cVv [] dX11_counts_29 rfl (by decide) mwX11_277 zp56 (by decide) rfl rfl (Nat.le_of_ble_eq_true rfl) (lX11_ahead σ _ e2) ?_
    exact kX11_counts_32 _ _ h
def fX11_counts (p1 : Int32) (σ : zS) : Option (Int32 × zS) := if (iG σ 56 8) = 0 then if p1 = 0 then fX11_counts_21 σ else bnr (fX11_blame 6 (iG σ 56 4) σ) fun σ3 => fX11_counts_21 σ3 else fX11_counts_21 σ
theorem eX11_counts {sc : Nat × (Nat → Int32)} (p1 : Int32) (σ : zS) (w : Int32 × zS) (h : fX11_counts p1 σ = some w) : zR (zY0 sc) 3 0 0 mX11_counts 0 [(0, .ref 56), (1, .int p1)] [] (zE σ) (some (.int w.1), zE w.2) := by
  unfold fX11_counts at h
  refine kR.aload_n dX11_counts_0 0 rfl ?_
  refine kR.getI dX11_counts_1 flX11_36 zcf11 zp56 (Or.inl rfl) ?_
  refine kR.if_ne (tgt := 21) dX11_counts_4 (by decide) h (fun h => ?_) (fun h => ?_)
  · refine zR.sub [0] rfl ?_
    exact kX11_counts_21 _ _ h
  · refine kR.iload_n dX11_counts_7 1 rfl ?_
    refine kR.if_eq (tgt := 21) dX11_counts_8 (by decide) h (fun h => ?_) (fun h => ?_)
    · refine zR.sub [0] rfl ?_
      exact kX11_counts_21 _ _ h
    · refine kR.aload_n dX11_counts_11 0 rfl ?_
      refine zR.bipush (v := 6) dX11_counts_12 (by decide) ?_
      refine kR.aload_n dX11_counts_14 0 rfl ?_
      refine kR.getI dX11_counts_15 flX11_23 zcf11 zp56 (Or.inl rfl) ?_
      obtain ⟨σ3, e4, h⟩ := bnr_some h
      refine kR.cVv [.int 6, .int (iG σ 56 4)] dX11_counts_18 rfl (by decide) mwX11_260 zp56 (by decide) rfl rfl (Nat.le_of_ble_eq_true rfl) (lX11_blame 6 (iG σ 56 4) σ _ e4) ?_
      refine zR.sub [0] rfl ?_
      exact kX11_counts_21 _ _ h
theorem lX11_counts {sc : Nat × (Nat → Int32)} (p1 : Int32) (σ : zS) (w : Int32 × zS) (h : fX11_counts p1 σ = some w) : zC (zY0 sc) 3 0 0 mX11_counts [.ref 56, .int p1] (zE σ) (some (.int w.1), zE w.2) := zC.of (by decide +kernel) (Nat.le_of_ble_eq_true rfl) ⟨_, rfl⟩ (eX11_counts p1 σ w h)
theorem dX11_must__0 : decode cX11_must_ 0 = .ok (.aload_n 0, 1) := by decide +kernel
theorem dX11_must__1 : decode cX11_must_ 1 = .ok (.invokevirtual 271, 3) := by decide +kernel
theorem dX11_must__4 : decode cX11_must_ 4 = .ok (.aload_n 0, 1) := by decide +kernel
theorem dX11_must__5 : decode cX11_must_ 5 = .ok (.getfield 36, 3) := by decide +kernel
theorem dX11_must__8 : decode cX11_must_ 8 = .ok (.ifCond .le 4, 3) := by decide +kernel
theorem dX11_must__11 : decode cX11_must_ 11 = .ok (.return_, 1) := by decide +kernel
theorem dX11_must__12 : decode cX11_must_ 12 = .ok (.aload_n 0, 1) := by decide +kernel
theorem dX11_must__13 : decode cX11_must_ 13 = .ok (.lload_n 1, 1) := by decide +kernel
theorem dX11_must__14 : decode cX11_must_ 14 = .ok (.invokevirtual 357, 3) := by decide +kernel
theorem dX11_must__17 : decode cX11_must_ 17 = .ok (.ifCond .ne 12, 3) := by decide +kernel
theorem dX11_must__20 : decode cX11_must_ 20 = .ok (.aload_n 0, 1) := by decide +kernel
theorem dX11_must__21 : decode cX11_must_ 21 = .ok (.iconst 1, 1) := by decide +kernel
theorem dX11_must__22 : decode cX11_must_ 22 = .ok (.aload_n 0, 1) := by decide +kernel
theorem dX11_must__23 : decode cX11_must_ 23 = .ok (.getfield 23, 3) := by decide +kernel
theorem dX11_must__26 : decode cX11_must_ 26 = .ok (.invokevirtual 260, 3) := by decide +kernel
theorem dX11_must__29 : decode cX11_must_ 29 = .ok (.aload_n 0, 1) := by decide +kernel
theorem dX11_must__30 : decode cX11_must_ 30 = .ok (.getfield 36, 3) := by decide +kernel
theorem dX11_must__33 : decode cX11_must_ 33 = .ok (.ifCond .ne 7, 3) := by decide +kernel
theorem dX11_must__36 : decode cX11_must_ 36 = .ok (.aload_n 0, 1) := by decide +kernel
theorem dX11_must__37 : decode cX11_must_ 37 = .ok (.invokevirtual 277, 3) := by decide +kernel
theorem dX11_must__40 : decode cX11_must_ 40 = .ok (.return_, 1) := by decide +kernel
def fX11_must__29 (σ : zS) : Option zS := if (iG σ 56 8) = 0 then bnr (fX11_ahead σ) fun σ3 => some σ3 else some σ
theorem kX11_must__29 {sc : Nat × (Nat → Int32)} (σ : zS) (w : zS) (h : fX11_must__29 σ = some w) : zR (zY0 sc) 3 0 0 mX11_must_ 29 [(0, .ref 56)] [] (zE σ) (none, zE w) := by
  unfold fX11_must__29 at h
  refine kR.aload_n dX11_must__29 0 rfl ?_
  refine kR.getI dX11_must__30 flX11_36 zcf11 zp56 (Or.inl rfl) ?_
  refine kR.if_ne (tgt := 40) dX11_must__33 (by decide) h (fun h => ?_) (fun h => ?_)
  · exact kR.vret dX11_must__40 h
  · refine kR.aload_n dX11_must__36 0 rfl ?_
    obtain ⟨σ3, e4, h⟩ := bnr_some h
    refine kR.cVv [] dX11_must__37 rfl (by decide) mwX11_277 zp56 (by decide) rfl rfl (Nat.le_of_ble_eq_true rfl) (lX11_ahead σ _ e4) ?_
    exact kR.vret dX11_must__40 h
def fX11_must_ (p1 : Int64) (σ : zS) : Option zS := bnr (fX11_lex σ) fun σ1 => if (iG σ1 56 8) ≤ 0 then if (fX11_isWord σ1 p1) = 0 then bnr (fX11_blame 1 (iG σ1 56 4) σ1) fun σ5 => fX11_must__29 σ5 else fX11_must__29 σ1 else some σ1
theorem eX11_must_ {sc : Nat × (Nat → Int32)} (p1 : Int64) (σ : zS) (w : zS) (h : fX11_must_ p1 σ = some w) : zR (zY0 sc) 3 0 0 mX11_must_ 0 [(0, .ref 56), (1, .long p1)] [] (zE σ) (none, zE w) := by
  unfold fX11_must_ at h
  refine kR.aload_n dX11_must__0 0 rfl ?_
  obtain ⟨σ1, e2, h⟩ := bnr_some h
  refine kR.cVv [] dX11_must__1 rfl (by decide) mwX11_271 zp56 (by decide) rfl rfl (Nat.le_of_ble_eq_true rfl) (lX11_lex σ _ e2) ?_
  refine kR.aload_n dX11_must__4 0 rfl ?_
  refine kR.getI dX11_must__5 flX11_36 zcf11 zp56 (Or.inl rfl) ?_
  refine kR.if_le (tgt := 12) dX11_must__8 (by decide) h (fun h => ?_) (fun h => ?_)
  · refine kR.aload_n dX11_must__12 0 rfl ?_
    refine kR.lload_n dX11_must__13 1 rfl ?_
    refine kR.cVi [.long p1] dX11_must__14 rfl (by decide) mwX11_357 zp56 (by decide) rfl rfl (Nat.le_of_ble_eq_true rfl) (lX11_isWord σ1 p1) ?_
    refine kR.if_ne (tgt := 29) dX11_must__17 (by decide) h (fun h => ?_) (fun h => ?_)
    · refine zR.sub [0] rfl ?_
      exact kX11_must__29 _ _ h
    · refine kR.aload_n dX11_must__20 0 rfl ?_
      refine zR.iconst (v := 1) dX11_must__21 (by decide) ?_
      refine kR.aload_n dX11_must__22 0 rfl ?_
      refine kR.getI dX11_must__23 flX11_23 zcf11 zp56 (Or.inl rfl) ?_
      obtain ⟨σ5, e6, h⟩ := bnr_some h
      refine kR.cVv [.int 1, .int (iG σ1 56 4)] dX11_must__26 rfl (by decide) mwX11_260 zp56 (by decide) rfl rfl (Nat.le_of_ble_eq_true rfl) (lX11_blame 1 (iG σ1 56 4) σ1 _ e6) ?_
      refine zR.sub [0] rfl ?_
      exact kX11_must__29 _ _ h
  · exact kR.vret dX11_must__11 h
theorem lX11_must_ {sc : Nat × (Nat → Int32)} (p1 : Int64) (σ : zS) (w : zS) (h : fX11_must_ p1 σ = some w) : zC (zY0 sc) 3 0 0 mX11_must_ [.ref 56, .long p1] (zE σ) (none, zE w) := zC.of (by decide +kernel) (Nat.le_of_ble_eq_true rfl) rfl (eX11_must_ p1 σ w h)
theorem dX11_fresh_0 : decode cX11_fresh 0 = .ok (.aload_n 0, 1) := by decide +kernel
theorem dX11_fresh_1 : decode cX11_fresh 1 = .ok (.invokevirtual 271, 3) := by decide +kernel
theorem dX11_fresh_4 : decode cX11_fresh 4 = .ok (.aload_n 0, 1) := by decide +kernel
theorem dX11_fresh_5 : decode cX11_fresh 5 = .ok (.getfield 36, 3) := by decide +kernel
theorem dX11_fresh_8 : decode cX11_fresh 8 = .ok (.ifCond .le 5, 3) := by decide +kernel
theorem dX11_fresh_11 : decode cX11_fresh 11 = .ok (.lconst 0, 1) := by decide +kernel
theorem dX11_fresh_12 : decode cX11_fresh 12 = .ok (.lreturn, 1) := by decide +kernel
theorem dX11_fresh_13 : decode cX11_fresh 13 = .ok (.aload_n 0, 1) := by decide +kernel
theorem dX11_fresh_14 : decode cX11_fresh 14 = .ok (.getfield 20, 3) := by decide +kernel
theorem dX11_fresh_17 : decode cX11_fresh 17 = .ok (.iconst 1, 1) := by decide +kernel
theorem dX11_fresh_18 : decode cX11_fresh 18 = .ok (.if_icmp .ne 14, 3) := by decide +kernel
theorem dX11_fresh_21 : decode cX11_fresh 21 = .ok (.aload_n 0, 1) := by decide +kernel
theorem dX11_fresh_22 : decode cX11_fresh 22 = .ok (.aload_n 0, 1) := by decide +kernel
theorem dX11_fresh_23 : decode cX11_fresh 23 = .ok (.getfield 32, 3) := by decide +kernel
theorem dX11_fresh_26 : decode cX11_fresh 26 = .ok (.invokevirtual 376, 3) := by decide +kernel
theorem dX11_fresh_29 : decode cX11_fresh 29 = .ok (.ifCond .eq 12, 3) := by decide +kernel
theorem dX11_fresh_32 : decode cX11_fresh 32 = .ok (.aload_n 0, 1) := by decide +kernel
theorem dX11_fresh_33 : decode cX11_fresh 33 = .ok (.iconst 1, 1) := by decide +kernel
theorem dX11_fresh_34 : decode cX11_fresh 34 = .ok (.aload_n 0, 1) := by decide +kernel
theorem dX11_fresh_35 : decode cX11_fresh 35 = .ok (.getfield 23, 3) := by decide +kernel
theorem dX11_fresh_38 : decode cX11_fresh 38 = .ok (.invokevirtual 260, 3) := by decide +kernel
theorem dX11_fresh_41 : decode cX11_fresh 41 = .ok (.iconst 0, 1) := by decide +kernel
theorem dX11_fresh_42 : decode cX11_fresh 42 = .ok (.istore_n 1, 1) := by decide +kernel
theorem dX11_fresh_43 : decode cX11_fresh 43 = .ok (.iload_n 1, 1) := by decide +kernel
theorem dX11_fresh_44 : decode cX11_fresh 44 = .ok (.iconst 1, 1) := by decide +kernel
theorem dX11_fresh_45 : decode cX11_fresh 45 = .ok (.if_icmp .gt 38, 3) := by decide +kernel
theorem dX11_fresh_48 : decode cX11_fresh 48 = .ok (.aload_n 0, 1) := by decide +kernel
theorem dX11_fresh_49 : decode cX11_fresh 49 = .ok (.getfield 36, 3) := by decide +kernel
theorem dX11_fresh_52 : decode cX11_fresh 52 = .ok (.ifCond .ne 31, 3) := by decide +kernel
theorem dX11_fresh_55 : decode cX11_fresh 55 = .ok (.aload_n 0, 1) := by decide +kernel
theorem dX11_fresh_56 : decode cX11_fresh 56 = .ok (.iload_n 1, 1) := by decide +kernel
theorem dX11_fresh_57 : decode cX11_fresh 57 = .ok (.aload_n 0, 1) := by decide +kernel
theorem dX11_fresh_58 : decode cX11_fresh 58 = .ok (.getfield 32, 3) := by decide +kernel
theorem dX11_fresh_61 : decode cX11_fresh 61 = .ok (.invokevirtual 379, 3) := by decide +kernel
theorem dX11_fresh_64 : decode cX11_fresh 64 = .ok (.iconst (-1), 1) := by decide +kernel
theorem dX11_fresh_65 : decode cX11_fresh 65 = .ok (.if_icmp .eq 12, 3) := by decide +kernel
theorem dX11_fresh_68 : decode cX11_fresh 68 = .ok (.aload_n 0, 1) := by decide +kernel
theorem dX11_fresh_69 : decode cX11_fresh 69 = .ok (.iconst 2, 1) := by decide +kernel
theorem dX11_fresh_70 : decode cX11_fresh 70 = .ok (.aload_n 0, 1) := by decide +kernel
theorem dX11_fresh_71 : decode cX11_fresh 71 = .ok (.getfield 23, 3) := by decide +kernel
theorem dX11_fresh_74 : decode cX11_fresh 74 = .ok (.invokevirtual 260, 3) := by decide +kernel
theorem dX11_fresh_77 : decode cX11_fresh 77 = .ok (.iinc 1 1, 3) := by decide +kernel
theorem dX11_fresh_80 : decode cX11_fresh 80 = .ok (.goto (-37), 3) := by decide +kernel
theorem dX11_fresh_83 : decode cX11_fresh 83 = .ok (.aload_n 0, 1) := by decide +kernel
theorem dX11_fresh_84 : decode cX11_fresh 84 = .ok (.getfield 32, 3) := by decide +kernel
theorem dX11_fresh_87 : decode cX11_fresh 87 = .ok (.lstore_n 1, 1) := by decide +kernel
theorem dX11_fresh_88 : decode cX11_fresh 88 = .ok (.aload_n 0, 1) := by decide +kernel
theorem dX11_fresh_89 : decode cX11_fresh 89 = .ok (.getfield 36, 3) := by decide +kernel
theorem dX11_fresh_92 : decode cX11_fresh 92 = .ok (.ifCond .ne 7, 3) := by decide +kernel
theorem dX11_fresh_95 : decode cX11_fresh 95 = .ok (.aload_n 0, 1) := by decide +kernel
theorem dX11_fresh_96 : decode cX11_fresh 96 = .ok (.invokevirtual 277, 3) := by decide +kernel
theorem dX11_fresh_99 : decode cX11_fresh 99 = .ok (.lload_n 1, 1) := by decide +kernel
theorem dX11_fresh_100 : decode cX11_fresh 100 = .ok (.lreturn, 1) := by decide +kernel
def fX11_fresh_83 (σ : zS) : Option (Int64 × zS) := if (iG σ 56 8) = 0 then bnr (fX11_ahead σ) fun σ5 => some (lG σ 56 7, σ5) else some (lG σ 56 7, σ)
theorem kX11_fresh_83 {sc : Nat × (Nat → Int32)} (σ : zS) (w : Int64 × zS) (h : fX11_fresh_83 σ = some w) : zR (zY0 sc) 3 0 0 mX11_fresh 83 [(0, .ref 56)] [] (zE σ) (some (.long w.1), zE w.2) := by
  unfold fX11_fresh_83 at h
  refine kR.aload_n dX11_fresh_83 0 rfl ?_
  refine kR.getL dX11_fresh_84 flX11_32 zcf11 zp56 rfl ?_
  refine zR.lstore_n (i := 1) (ls' := [(1, .long (lG σ 56 7)), (0, .ref 56)]) dX11_fresh_87 rfl (by decide) rfl ?_
  refine kR.aload_n dX11_fresh_88 1 rfl ?_
  refine kR.getI dX11_fresh_89 flX11_36 zcf11 zp56 (Or.inl rfl) ?_
  refine kR.if_ne (tgt := 99) dX11_fresh_92 (by decide) h (fun h => ?_) (fun h => ?_)
  · refine kR.lload_n dX11_fresh_99 0 rfl ?_
    exact kR.lretW dX11_fresh_100 h
  · refine kR.aload_n dX11_fresh_95 1 rfl ?_
    obtain ⟨σ5, e6, h⟩ := bnr_some h
    refine kR.cVv [] dX11_fresh_96 rfl (by decide) mwX11_277 zp56 (by decide) rfl rfl (Nat.le_of_ble_eq_true rfl) (lX11_ahead σ _ e6) ?_
    refine kR.lload_n dX11_fresh_99 0 rfl ?_
    exact kR.lretW dX11_fresh_100 h
def fX11_fresh_77 (r43 : Int32 → zS → Option (Int64 × zS)) (x1 : Int32) (σ : zS) : Option (Int64 × zS) := r43 (x1 + 1) σ
theorem kX11_fresh_77 {sc : Nat × (Nat → Int32)} (r43 : Int32 → zS → Option (Int64 × zS)) (hr43 : ∀ (x1 : Int32) (σ : zS) (w : Int64 × zS), r43 x1 σ = some w → zR (zY0 sc) 3 0 0 mX11_fresh 43 [(0, .ref 56), (1, .int x1)] [] (zE σ) (some (.long w.1), zE w.2)) (x1 : Int32) (σ : zS) (w : Int64 × zS) (h : fX11_fresh_77 r43 x1 σ = some w) : zR (zY0 sc) 3 0 0 mX11_fresh 77 [(0, .ref 56), (1, .int x1)] [] (zE σ) (some (.long w.1), zE w.2) := by
  unfold fX11_fresh_77 at h
  refine zR.iinc 1 (v := x1 + 1) (ls' := [(1, .int (x1 + 1)), (0, .ref 56)]) dX11_fresh_77 rfl rfl (by decide) rfl ?_
  refine zR.goto (tgt := 43) dX11_fresh_80 (by decide) ?_
  refine zR.sub [1, 0] rfl ?_
  exact hr43 _ _ _ h
def fX11_fresh_43 : Nat → Int32 → zS → Option (Int64 × zS)
  | 0, _, _ => none
  | f + 1, x1, σ => if 1 < x1 then fX11_fresh_83 σ else if (iG σ 56 8) = 0 then bnr (fX11_named σ x1 (lG σ 56 7)) fun v7 => if v7 = ((-1)) then fX11_fresh_77 (fX11_fresh_43 f) x1 σ else bnr (fX11_blame 2 (iG σ 56 4) σ) fun σ9 => fX11_fresh_77 (fX11_fresh_43 f) x1 σ9 else fX11_fresh_83 σ
theorem kX11_fresh_43 {sc : Nat × (Nat → Int32)} : ∀ (fuel : Nat) (x1 : Int32) (σ : zS) (w : Int64 × zS) (h : fX11_fresh_43 fuel x1 σ = some w), zR (zY0 sc) 3 0 0 mX11_fresh 43 [(0, .ref 56), (1, .int x1)] [] (zE σ) (some (.long w.1), zE w.2) := by
  intro fuel
  induction fuel with
  | zero => intro x1 σ w h; exact nomatch h
  | succ f ih =>
    intro x1 σ w h
    rw [fX11_fresh_43] at h
    refine kR.iload_n dX11_fresh_43 1 rfl ?_
    refine zR.iconst (v := 1) dX11_fresh_44 (by decide) ?_
    refine kR.icmp_gt (tgt := 83) dX11_fresh_45 (by decide) h (fun h => ?_) (fun h => ?_)
    · refine zR.sub [0] rfl ?_
      exact kX11_fresh_83 _ _ h
    · refine kR.aload_n dX11_fresh_48 0 rfl ?_
      refine kR.getI dX11_fresh_49 flX11_36 zcf11 zp56 (Or.inl rfl) ?_
      refine kR.if_ne (tgt := 83) dX11_fresh_52 (by decide) h (fun h => ?_) (fun h => ?_)
      · refine zR.sub [0] rfl ?_
        exact kX11_fresh_83 _ _ h
      · refine kR.aload_n dX11_fresh_55 0 rfl ?_
        refine kR.iload_n dX11_fresh_56 1 rfl ?_
        refine kR.aload_n dX11_fresh_57 0 rfl ?_
        refine kR.getL dX11_fresh_58 flX11_32 zcf11 zp56 rfl ?_
        obtain ⟨v7, e8, h⟩ := bnr_some h
        refine kR.cVi [.int x1, .long (lG σ 56 7)] dX11_fresh_61 rfl (by decide) mwX11_379 zp56 (by decide) rfl rfl (Nat.le_of_ble_eq_true rfl) (lX11_named σ x1 (lG σ 56 7) _ e8) ?_
        refine zR.iconst (v := (-1)) dX11_fresh_64 (by decide) ?_
        refine kR.icmp_eq (tgt := 77) dX11_fresh_65 (by decide) h (fun h => ?_) (fun h => ?_)
        · exact kX11_fresh_77 (fX11_fresh_43 f) ih _ _ _ h
        · refine kR.aload_n dX11_fresh_68 0 rfl ?_
          refine zR.iconst (v := 2) dX11_fresh_69 (by decide) ?_
          refine kR.aload_n dX11_fresh_70 0 rfl ?_
          refine kR.getI dX11_fresh_71 flX11_23 zcf11 zp56 (Or.inl rfl) ?_
          obtain ⟨σ9, e10, h⟩ := bnr_some h
          refine kR.cVv [.int 2, .int (iG σ 56 4)] dX11_fresh_74 rfl (by decide) mwX11_260 zp56 (by decide) rfl rfl (Nat.le_of_ble_eq_true rfl) (lX11_blame 2 (iG σ 56 4) σ _ e10) ?_
          exact kX11_fresh_77 (fX11_fresh_43 f) ih _ _ _ h
def fX11_fresh_41 (σ : zS) : Option (Int64 × zS) := fX11_fresh_43 zF 0 σ
theorem kX11_fresh_41 {sc : Nat × (Nat → Int32)} (σ : zS) (w : Int64 × zS) (h : fX11_fresh_41 σ = some w) : zR (zY0 sc) 3 0 0 mX11_fresh 41 [(0, .ref 56)] [] (zE σ) (some (.long w.1), zE w.2) := by
  unfold fX11_fresh_41 at h
  refine zR.iconst (v := 0) dX11_fresh_41 (by decide) ?_
  refine zR.istore_n (i := 1) (ls' := [(1, .int 0), (0, .ref 56)]) dX11_fresh_42 rfl (by decide) rfl ?_
  refine zR.sub [1, 0] rfl ?_
  exact kX11_fresh_43 zF _ _ _ h
def fX11_fresh_32 (σ : zS) : Option (Int64 × zS) := bnr (fX11_blame 1 (iG σ 56 4) σ) fun σ3 => fX11_fresh_41 σ3
theorem kX11_fresh_32 {sc : Nat × (Nat → Int32)} (σ : zS) (w : Int64 × zS) (h : fX11_fresh_32 σ = some w) : zR (zY0 sc) 3 0 0 mX11_fresh 32 [(0, .ref 56)] [] (zE σ) (some (.long w.1), zE w.2) := by
  unfold fX11_fresh_32 at h
  refine kR.aload_n dX11_fresh_32 0 rfl ?_
  refine zR.iconst (v := 1) dX11_fresh_33 (by decide) ?_
  refine kR.aload_n dX11_fresh_34 0 rfl ?_
  refine kR.getI dX11_fresh_35 flX11_23 zcf11 zp56 (Or.inl rfl) ?_
  obtain ⟨σ3, e4, h⟩ := bnr_some h
  refine kR.cVv [.int 1, .int (iG σ 56 4)] dX11_fresh_38 rfl (by decide) mwX11_260 zp56 (by decide) rfl rfl (Nat.le_of_ble_eq_true rfl) (lX11_blame 1 (iG σ 56 4) σ _ e4) ?_
  exact kX11_fresh_41 _ _ h
def fX11_fresh (σ : zS) : Option (Int64 × zS) := bnr (fX11_lex σ) fun σ1 => if (iG σ1 56 8) ≤ 0 then if (iG σ1 56 3) = 1 then if (fX11_isOwn (lG σ1 56 7)) = 0 then fX11_fresh_41 σ1 else fX11_fresh_32 σ1 else fX11_fresh_32 σ1 else some (0, σ1)
theorem eX11_fresh {sc : Nat × (Nat → Int32)} (σ : zS) (w : Int64 × zS) (h : fX11_fresh σ = some w) : zR (zY0 sc) 3 0 0 mX11_fresh 0 [(0, .ref 56)] [] (zE σ) (some (.long w.1), zE w.2) := by
  unfold fX11_fresh at h
  refine kR.aload_n dX11_fresh_0 0 rfl ?_
  obtain ⟨σ1, e2, h⟩ := bnr_some h
  refine kR.cVv [] dX11_fresh_1 rfl (by decide) mwX11_271 zp56 (by decide) rfl rfl (Nat.le_of_ble_eq_true rfl) (lX11_lex σ _ e2) ?_
  refine kR.aload_n dX11_fresh_4 0 rfl ?_
  refine kR.getI dX11_fresh_5 flX11_36 zcf11 zp56 (Or.inl rfl) ?_
  refine kR.if_le (tgt := 13) dX11_fresh_8 (by decide) h (fun h => ?_) (fun h => ?_)
  · refine kR.aload_n dX11_fresh_13 0 rfl ?_
    refine kR.getI dX11_fresh_14 flX11_20 zcf11 zp56 (Or.inl rfl) ?_
    refine zR.iconst (v := 1) dX11_fresh_17 (by decide) ?_
    refine kR.icmp_ne (tgt := 32) dX11_fresh_18 (by decide) h (fun h => ?_) (fun h => ?_)
    · exact kX11_fresh_32 _ _ h
    · refine kR.aload_n dX11_fresh_21 0 rfl ?_
      refine kR.aload_n dX11_fresh_22 0 rfl ?_
      refine kR.getL dX11_fresh_23 flX11_32 zcf11 zp56 rfl ?_
      refine kR.cVi [.long (lG σ1 56 7)] dX11_fresh_26 rfl (by decide) mwX11_376 zp56 (by decide) rfl rfl (Nat.le_of_ble_eq_true rfl) (lX11_isOwn (lG σ1 56 7)) ?_
      refine kR.if_eq (tgt := 41) dX11_fresh_29 (by decide) h (fun h => ?_) (fun h => ?_)
      · exact kX11_fresh_41 _ _ h
      · exact kX11_fresh_32 _ _ h
  · refine zR.lconst (v := 0) dX11_fresh_11 (by decide) ?_
    exact kR.lretW dX11_fresh_12 h
theorem lX11_fresh {sc : Nat × (Nat → Int32)} (σ : zS) (w : Int64 × zS) (h : fX11_fresh σ = some w) : zC (zY0 sc) 3 0 0 mX11_fresh [.ref 56] (zE σ) (some (.long w.1), zE w.2) := zC.of (by decide +kernel) (Nat.le_of_ble_eq_true rfl) rfl (eX11_fresh σ w h)
theorem dX11_asked_0 : decode cX11_asked 0 = .ok (.aload_n 0, 1) := by decide +kernel
theorem dX11_asked_1 : decode cX11_asked 1 = .ok (.invokevirtual 271, 3) := by decide +kernel
theorem dX11_asked_4 : decode cX11_asked 4 = .ok (.aload_n 0, 1) := by decide +kernel
theorem dX11_asked_5 : decode cX11_asked 5 = .ok (.getfield 36, 3) := by decide +kernel
theorem dX11_asked_8 : decode cX11_asked 8 = .ok (.ifCond .le 5, 3) := by decide +kernel
theorem dX11_asked_11 : decode cX11_asked 11 = .ok (.iconst 0, 1) := by decide +kernel
theorem dX11_asked_12 : decode cX11_asked 12 = .ok (.ireturn, 1) := by decide +kernel
theorem dX11_asked_13 : decode cX11_asked 13 = .ok (.aload_n 0, 1) := by decide +kernel
theorem dX11_asked_14 : decode cX11_asked 14 = .ok (.getfield 20, 3) := by decide +kernel
theorem dX11_asked_17 : decode cX11_asked 17 = .ok (.iconst 1, 1) := by decide +kernel
theorem dX11_asked_18 : decode cX11_asked 18 = .ok (.if_icmp .ne 14, 3) := by decide +kernel
theorem dX11_asked_21 : decode cX11_asked 21 = .ok (.aload_n 0, 1) := by decide +kernel
theorem dX11_asked_22 : decode cX11_asked 22 = .ok (.aload_n 0, 1) := by decide +kernel
theorem dX11_asked_23 : decode cX11_asked 23 = .ok (.getfield 32, 3) := by decide +kernel
theorem dX11_asked_26 : decode cX11_asked 26 = .ok (.invokevirtual 376, 3) := by decide +kernel
theorem dX11_asked_29 : decode cX11_asked 29 = .ok (.ifCond .eq 12, 3) := by decide +kernel
theorem dX11_asked_32 : decode cX11_asked 32 = .ok (.aload_n 0, 1) := by decide +kernel
theorem dX11_asked_33 : decode cX11_asked 33 = .ok (.iconst 1, 1) := by decide +kernel
theorem dX11_asked_34 : decode cX11_asked 34 = .ok (.aload_n 0, 1) := by decide +kernel
theorem dX11_asked_35 : decode cX11_asked 35 = .ok (.getfield 23, 3) := by decide +kernel
theorem dX11_asked_38 : decode cX11_asked 38 = .ok (.invokevirtual 260, 3) := by decide +kernel
theorem dX11_asked_41 : decode cX11_asked 41 = .ok (.aload_n 0, 1) := by decide +kernel
theorem dX11_asked_42 : decode cX11_asked 42 = .ok (.getfield 36, 3) := by decide +kernel
theorem dX11_asked_45 : decode cX11_asked 45 = .ok (.ifCond .le 7, 3) := by decide +kernel
theorem dX11_asked_48 : decode cX11_asked 48 = .ok (.iconst 0, 1) := by decide +kernel
theorem dX11_asked_49 : decode cX11_asked 49 = .ok (.goto 12, 3) := by decide +kernel
theorem dX11_asked_52 : decode cX11_asked 52 = .ok (.aload_n 0, 1) := by decide +kernel
theorem dX11_asked_53 : decode cX11_asked 53 = .ok (.iload_n 1, 1) := by decide +kernel
theorem dX11_asked_54 : decode cX11_asked 54 = .ok (.aload_n 0, 1) := by decide +kernel
theorem dX11_asked_55 : decode cX11_asked 55 = .ok (.getfield 32, 3) := by decide +kernel
theorem dX11_asked_58 : decode cX11_asked 58 = .ok (.invokevirtual 379, 3) := by decide +kernel
theorem dX11_asked_61 : decode cX11_asked 61 = .ok (.istore_n 2, 1) := by decide +kernel
theorem dX11_asked_62 : decode cX11_asked 62 = .ok (.aload_n 0, 1) := by decide +kernel
theorem dX11_asked_63 : decode cX11_asked 63 = .ok (.getfield 36, 3) := by decide +kernel
theorem dX11_asked_66 : decode cX11_asked 66 = .ok (.ifCond .ne 17, 3) := by decide +kernel
theorem dX11_asked_69 : decode cX11_asked 69 = .ok (.iload_n 2, 1) := by decide +kernel
theorem dX11_asked_70 : decode cX11_asked 70 = .ok (.iconst (-1), 1) := by decide +kernel
theorem dX11_asked_71 : decode cX11_asked 71 = .ok (.if_icmp .ne 12, 3) := by decide +kernel
theorem dX11_asked_74 : decode cX11_asked 74 = .ok (.aload_n 0, 1) := by decide +kernel
theorem dX11_asked_75 : decode cX11_asked 75 = .ok (.iconst 3, 1) := by decide +kernel
theorem dX11_asked_76 : decode cX11_asked 76 = .ok (.aload_n 0, 1) := by decide +kernel
theorem dX11_asked_77 : decode cX11_asked 77 = .ok (.getfield 23, 3) := by decide +kernel
theorem dX11_asked_80 : decode cX11_asked 80 = .ok (.invokevirtual 260, 3) := by decide +kernel
theorem dX11_asked_83 : decode cX11_asked 83 = .ok (.aload_n 0, 1) := by decide +kernel
theorem dX11_asked_84 : decode cX11_asked 84 = .ok (.getfield 36, 3) := by decide +kernel
theorem dX11_asked_87 : decode cX11_asked 87 = .ok (.ifCond .ne 7, 3) := by decide +kernel
theorem dX11_asked_90 : decode cX11_asked 90 = .ok (.aload_n 0, 1) := by decide +kernel
theorem dX11_asked_91 : decode cX11_asked 91 = .ok (.invokevirtual 277, 3) := by decide +kernel
theorem dX11_asked_94 : decode cX11_asked 94 = .ok (.aload_n 0, 1) := by decide +kernel
theorem dX11_asked_95 : decode cX11_asked 95 = .ok (.getfield 36, 3) := by decide +kernel
theorem dX11_asked_98 : decode cX11_asked 98 = .ok (.ifCond .le 7, 3) := by decide +kernel
theorem dX11_asked_101 : decode cX11_asked 101 = .ok (.iconst 0, 1) := by decide +kernel
theorem dX11_asked_102 : decode cX11_asked 102 = .ok (.goto 4, 3) := by decide +kernel
theorem dX11_asked_105 : decode cX11_asked 105 = .ok (.iload_n 2, 1) := by decide +kernel
theorem dX11_asked_106 : decode cX11_asked 106 = .ok (.ireturn, 1) := by decide +kernel
def fX11_asked_94 (x2 : Int32) (σ : zS) : Option (Int32 × zS) := if (iG σ 56 8) ≤ 0 then some (x2, σ) else some (0, σ)
theorem kX11_asked_94 {sc : Nat × (Nat → Int32)} (x2 : Int32) (σ : zS) (w : Int32 × zS) (h : fX11_asked_94 x2 σ = some w) : zR (zY0 sc) 3 0 0 mX11_asked 94 [(0, .ref 56), (2, .int x2)] [] (zE σ) (some (.int w.1), zE w.2) := by
  unfold fX11_asked_94 at h
  refine kR.aload_n dX11_asked_94 0 rfl ?_
  refine kR.getI dX11_asked_95 flX11_36 zcf11 zp56 (Or.inl rfl) ?_
  refine kR.if_le (tgt := 105) dX11_asked_98 (by decide) h (fun h => ?_) (fun h => ?_)
  · refine kR.iload_n dX11_asked_105 1 rfl ?_
    exact kR.iretW dX11_asked_106 (nzI rfl _) h
  · refine zR.iconst (v := 0) dX11_asked_101 (by decide) ?_
    refine zR.goto (tgt := 106) dX11_asked_102 (by decide) ?_
    exact kR.iretW dX11_asked_106 (nzI rfl _) h
def fX11_asked_83 (x2 : Int32) (σ : zS) : Option (Int32 × zS) := if (iG σ 56 8) = 0 then bnr (fX11_ahead σ) fun σ7 => fX11_asked_94 x2 σ7 else fX11_asked_94 x2 σ
theorem kX11_asked_83 {sc : Nat × (Nat → Int32)} (x2 : Int32) (σ : zS) (w : Int32 × zS) (h : fX11_asked_83 x2 σ = some w) : zR (zY0 sc) 3 0 0 mX11_asked 83 [(0, .ref 56), (2, .int x2)] [] (zE σ) (some (.int w.1), zE w.2) := by
  unfold fX11_asked_83 at h
  refine kR.aload_n dX11_asked_83 0 rfl ?_
  refine kR.getI dX11_asked_84 flX11_36 zcf11 zp56 (Or.inl rfl) ?_
  refine kR.if_ne (tgt := 94) dX11_asked_87 (by decide) h (fun h => ?_) (fun h => ?_)
  · exact kX11_asked_94 _ _ _ h
  · refine kR.aload_n dX11_asked_90 0 rfl ?_
    obtain ⟨σ7, e8, h⟩ := bnr_some h
    refine kR.cVv [] dX11_asked_91 rfl (by decide) mwX11_277 zp56 (by decide) rfl rfl (Nat.le_of_ble_eq_true rfl) (lX11_ahead σ _ e8) ?_
    exact kX11_asked_94 _ _ _ h
def fX11_asked_61 (s0 : Int32) (σ : zS) : Option (Int32 × zS) := if (iG σ 56 8) = 0 then if s0 = ((-1)) then bnr (fX11_blame 3 (iG σ 56 4) σ) fun σ9 => fX11_asked_83 s0 σ9 else fX11_asked_83 s0 σ else fX11_asked_83 s0 σ
theorem kX11_asked_61 {sc : Nat × (Nat → Int32)} (s0 : Int32) (σ : zS) (w : Int32 × zS) (h : fX11_asked_61 s0 σ = some w) : zR (zY0 sc) 3 0 0 mX11_asked 61 [(0, .ref 56)] [.int s0] (zE σ) (some (.int w.1), zE w.2) := by
  unfold fX11_asked_61 at h
  refine zR.istore_n (i := 2) (ls' := [(2, .int s0), (0, .ref 56)]) dX11_asked_61 rfl (by decide) rfl ?_
  refine kR.aload_n dX11_asked_62 1 rfl ?_
  refine kR.getI dX11_asked_63 flX11_36 zcf11 zp56 (Or.inl rfl) ?_
  refine kR.if_ne (tgt := 83) dX11_asked_66 (by decide) h (fun h => ?_) (fun h => ?_)
  · refine zR.sub [1, 0] rfl ?_
    exact kX11_asked_83 _ _ _ h
  · refine kR.iload_n dX11_asked_69 0 rfl ?_
    refine zR.iconst (v := (-1)) dX11_asked_70 (by decide) ?_
    refine kR.icmp_ne (tgt := 83) dX11_asked_71 (by decide) h (fun h => ?_) (fun h => ?_)
    · refine zR.sub [1, 0] rfl ?_
      exact kX11_asked_83 _ _ _ h
    · refine kR.aload_n dX11_asked_74 1 rfl ?_
      refine zR.iconst (v := 3) dX11_asked_75 (by decide) ?_
      refine kR.aload_n dX11_asked_76 1 rfl ?_
      refine kR.getI dX11_asked_77 flX11_23 zcf11 zp56 (Or.inl rfl) ?_
      obtain ⟨σ9, e10, h⟩ := bnr_some h
      refine kR.cVv [.int 3, .int (iG σ 56 4)] dX11_asked_80 rfl (by decide) mwX11_260 zp56 (by decide) rfl rfl (Nat.le_of_ble_eq_true rfl) (lX11_blame 3 (iG σ 56 4) σ _ e10) ?_
      refine zR.sub [1, 0] rfl ?_
      exact kX11_asked_83 _ _ _ h
def fX11_asked_41 (x1 : Int32) (σ : zS) : Option (Int32 × zS) := if (iG σ 56 8) ≤ 0 then bnr (fX11_named σ x1 (lG σ 56 7)) fun v5 => fX11_asked_61 v5 σ else fX11_asked_61 0 σ
theorem kX11_asked_41 {sc : Nat × (Nat → Int32)} (x1 : Int32) (σ : zS) (w : Int32 × zS) (h : fX11_asked_41 x1 σ = some w) : zR (zY0 sc) 3 0 0 mX11_asked 41 [(0, .ref 56), (1, .int x1)] [] (zE σ) (some (.int w.1), zE w.2) := by
  unfold fX11_asked_41 at h
  refine kR.aload_n dX11_asked_41 0 rfl ?_
  refine kR.getI dX11_asked_42 flX11_36 zcf11 zp56 (Or.inl rfl) ?_
  refine kR.if_le (tgt := 52) dX11_asked_45 (by decide) h (fun h => ?_) (fun h => ?_)
  · refine kR.aload_n dX11_asked_52 0 rfl ?_
    refine kR.iload_n dX11_asked_53 1 rfl ?_
    refine kR.aload_n dX11_asked_54 0 rfl ?_
    refine kR.getL dX11_asked_55 flX11_32 zcf11 zp56 rfl ?_
    obtain ⟨v5, e6, h⟩ := bnr_some h
    refine kR.cVi [.int x1, .long (lG σ 56 7)] dX11_asked_58 rfl (by decide) mwX11_379 zp56 (by decide) rfl rfl (Nat.le_of_ble_eq_true rfl) (lX11_named σ x1 (lG σ 56 7) _ e6) ?_
    refine zR.sub [0] rfl ?_
    exact kX11_asked_61 _ _ _ h
  · refine zR.iconst (v := 0) dX11_asked_48 (by decide) ?_
    refine zR.goto (tgt := 61) dX11_asked_49 (by decide) ?_
    refine zR.sub [0] rfl ?_
    exact kX11_asked_61 _ _ _ h
def fX11_asked_32 (x1 : Int32) (σ : zS) : Option (Int32 × zS) := bnr (fX11_blame 1 (iG σ 56 4) σ) fun σ3 => fX11_asked_41 x1 σ3
theorem kX11_asked_32 {sc : Nat × (Nat → Int32)} (x1 : Int32) (σ : zS) (w : Int32 × zS) (h : fX11_asked_32 x1 σ = some w) : zR (zY0 sc) 3 0 0 mX11_asked 32 [(0, .ref 56), (1, .int x1)] [] (zE σ) (some (.int w.1), zE w.2) := by
  unfold fX11_asked_32 at h
  refine kR.aload_n dX11_asked_32 0 rfl ?_
  refine zR.iconst (v := 1) dX11_asked_33 (by decide) ?_
  refine kR.aload_n dX11_asked_34 0 rfl ?_
  refine kR.getI dX11_asked_35 flX11_23 zcf11 zp56 (Or.inl rfl) ?_
  obtain ⟨σ3, e4, h⟩ := bnr_some h
  refine kR.cVv [.int 1, .int (iG σ 56 4)] dX11_asked_38 rfl (by decide) mwX11_260 zp56 (by decide) rfl rfl (Nat.le_of_ble_eq_true rfl) (lX11_blame 1 (iG σ 56 4) σ _ e4) ?_
  exact kX11_asked_41 _ _ _ h
def fX11_asked (p1 : Int32) (σ : zS) : Option (Int32 × zS) := bnr (fX11_lex σ) fun σ1 => if (iG σ1 56 8) ≤ 0 then if (iG σ1 56 3) = 1 then if (fX11_isOwn (lG σ1 56 7)) = 0 then fX11_asked_41 p1 σ1 else fX11_asked_32 p1 σ1 else fX11_asked_32 p1 σ1 else some (0, σ1)
theorem eX11_asked {sc : Nat × (Nat → Int32)} (p1 : Int32) (σ : zS) (w : Int32 × zS) (h : fX11_asked p1 σ = some w) : zR (zY0 sc) 3 0 0 mX11_asked 0 [(0, .ref 56), (1, .int p1)] [] (zE σ) (some (.int w.1), zE w.2) := by
  unfold fX11_asked at h
  refine kR.aload_n dX11_asked_0 0 rfl ?_
  obtain ⟨σ1, e2, h⟩ := bnr_some h
  refine kR.cVv [] dX11_asked_1 rfl (by decide) mwX11_271 zp56 (by decide) rfl rfl (Nat.le_of_ble_eq_true rfl) (lX11_lex σ _ e2) ?_
  refine kR.aload_n dX11_asked_4 0 rfl ?_
  refine kR.getI dX11_asked_5 flX11_36 zcf11 zp56 (Or.inl rfl) ?_
  refine kR.if_le (tgt := 13) dX11_asked_8 (by decide) h (fun h => ?_) (fun h => ?_)
  · refine kR.aload_n dX11_asked_13 0 rfl ?_
    refine kR.getI dX11_asked_14 flX11_20 zcf11 zp56 (Or.inl rfl) ?_
    refine zR.iconst (v := 1) dX11_asked_17 (by decide) ?_
    refine kR.icmp_ne (tgt := 32) dX11_asked_18 (by decide) h (fun h => ?_) (fun h => ?_)
    · exact kX11_asked_32 _ _ _ h
    · refine kR.aload_n dX11_asked_21 0 rfl ?_
      refine kR.aload_n dX11_asked_22 0 rfl ?_
      refine kR.getL dX11_asked_23 flX11_32 zcf11 zp56 rfl ?_
      refine kR.cVi [.long (lG σ1 56 7)] dX11_asked_26 rfl (by decide) mwX11_376 zp56 (by decide) rfl rfl (Nat.le_of_ble_eq_true rfl) (lX11_isOwn (lG σ1 56 7)) ?_
      refine kR.if_eq (tgt := 41) dX11_asked_29 (by decide) h (fun h => ?_) (fun h => ?_)
      · exact kX11_asked_41 _ _ _ h
      · exact kX11_asked_32 _ _ _ h
  · refine zR.iconst (v := 0) dX11_asked_11 (by decide) ?_
    exact kR.iretW dX11_asked_12 (nzI rfl _) h
theorem lX11_asked {sc : Nat × (Nat → Int32)} (p1 : Int32) (σ : zS) (w : Int32 × zS) (h : fX11_asked p1 σ = some w) : zC (zY0 sc) 3 0 0 mX11_asked [.ref 56, .int p1] (zE σ) (some (.int w.1), zE w.2) := zC.of (by decide +kernel) (Nat.le_of_ble_eq_true rfl) ⟨_, rfl⟩ (eX11_asked p1 σ w h)
theorem dX11_tunnelling_0 : decode cX11_tunnelling 0 = .ok (.aload_n 0, 1) := by decide +kernel
theorem dX11_tunnelling_1 : decode cX11_tunnelling 1 = .ok (.aload_n 0, 1) := by decide +kernel
theorem dX11_tunnelling_2 : decode cX11_tunnelling 2 = .ok (.getfield 54, 3) := by decide +kernel
theorem dX11_tunnelling_5 : decode cX11_tunnelling 5 = .ok (.aload_n 0, 1) := by decide +kernel
theorem dX11_tunnelling_6 : decode cX11_tunnelling 6 = .ok (.getfield 118, 3) := by decide +kernel
theorem dX11_tunnelling_9 : decode cX11_tunnelling 9 = .ok (.iaload, 1) := by decide +kernel
theorem dX11_tunnelling_10 : decode cX11_tunnelling 10 = .ok (.bipush 6, 2) := by decide +kernel
theorem dX11_tunnelling_12 : decode cX11_tunnelling 12 = .ok (.if_icmp .ne 7, 3) := by decide +kernel
theorem dX11_tunnelling_15 : decode cX11_tunnelling 15 = .ok (.iconst 1, 1) := by decide +kernel
theorem dX11_tunnelling_16 : decode cX11_tunnelling 16 = .ok (.goto 4, 3) := by decide +kernel
theorem dX11_tunnelling_19 : decode cX11_tunnelling 19 = .ok (.iconst 0, 1) := by decide +kernel
theorem dX11_tunnelling_20 : decode cX11_tunnelling 20 = .ok (.invokevirtual 383, 3) := by decide +kernel
theorem dX11_tunnelling_23 : decode cX11_tunnelling 23 = .ok (.ifCond .ne 4, 3) := by decide +kernel
theorem dX11_tunnelling_26 : decode cX11_tunnelling 26 = .ok (.return_, 1) := by decide +kernel
theorem dX11_tunnelling_27 : decode cX11_tunnelling 27 = .ok (.bipush 6, 2) := by decide +kernel
theorem dX11_tunnelling_29 : decode cX11_tunnelling 29 = .ok (.aload_n 0, 1) := by decide +kernel
theorem dX11_tunnelling_30 : decode cX11_tunnelling 30 = .ok (.getfield 118, 3) := by decide +kernel
theorem dX11_tunnelling_33 : decode cX11_tunnelling 33 = .ok (.imul, 1) := by decide +kernel
theorem dX11_tunnelling_34 : decode cX11_tunnelling 34 = .ok (.aload_n 0, 1) := by decide +kernel
theorem dX11_tunnelling_35 : decode cX11_tunnelling 35 = .ok (.getfield 54, 3) := by decide +kernel
theorem dX11_tunnelling_38 : decode cX11_tunnelling 38 = .ok (.aload_n 0, 1) := by decide +kernel
theorem dX11_tunnelling_39 : decode cX11_tunnelling 39 = .ok (.getfield 118, 3) := by decide +kernel
theorem dX11_tunnelling_42 : decode cX11_tunnelling 42 = .ok (.iaload, 1) := by decide +kernel
theorem dX11_tunnelling_43 : decode cX11_tunnelling 43 = .ok (.iadd, 1) := by decide +kernel
theorem dX11_tunnelling_44 : decode cX11_tunnelling 44 = .ok (.istore_n 1, 1) := by decide +kernel
theorem dX11_tunnelling_45 : decode cX11_tunnelling 45 = .ok (.aload_n 0, 1) := by decide +kernel
theorem dX11_tunnelling_46 : decode cX11_tunnelling 46 = .ok (.getfield 108, 3) := by decide +kernel
theorem dX11_tunnelling_49 : decode cX11_tunnelling 49 = .ok (.iload_n 1, 1) := by decide +kernel
theorem dX11_tunnelling_50 : decode cX11_tunnelling 50 = .ok (.aload_n 0, 1) := by decide +kernel
theorem dX11_tunnelling_51 : decode cX11_tunnelling 51 = .ok (.invokevirtual 387, 3) := by decide +kernel
theorem dX11_tunnelling_54 : decode cX11_tunnelling 54 = .ok (.lastore, 1) := by decide +kernel
theorem dX11_tunnelling_55 : decode cX11_tunnelling 55 = .ok (.aload_n 0, 1) := by decide +kernel
theorem dX11_tunnelling_56 : decode cX11_tunnelling 56 = .ok (.ldc2_w 282, 3) := by decide +kernel
theorem dX11_tunnelling_59 : decode cX11_tunnelling 59 = .ok (.invokevirtual 391, 3) := by decide +kernel
theorem dX11_tunnelling_62 : decode cX11_tunnelling 62 = .ok (.aload_n 0, 1) := by decide +kernel
theorem dX11_tunnelling_63 : decode cX11_tunnelling 63 = .ok (.getfield 57, 3) := by decide +kernel
theorem dX11_tunnelling_66 : decode cX11_tunnelling 66 = .ok (.iload_n 1, 1) := by decide +kernel
theorem dX11_tunnelling_67 : decode cX11_tunnelling 67 = .ok (.aload_n 0, 1) := by decide +kernel
theorem dX11_tunnelling_68 : decode cX11_tunnelling 68 = .ok (.iconst 0, 1) := by decide +kernel
theorem dX11_tunnelling_69 : decode cX11_tunnelling 69 = .ok (.bipush 99, 2) := by decide +kernel
theorem dX11_tunnelling_71 : decode cX11_tunnelling 71 = .ok (.invokevirtual 395, 3) := by decide +kernel
theorem dX11_tunnelling_74 : decode cX11_tunnelling 74 = .ok (.iastore, 1) := by decide +kernel
theorem dX11_tunnelling_75 : decode cX11_tunnelling 75 = .ok (.aload_n 0, 1) := by decide +kernel
theorem dX11_tunnelling_76 : decode cX11_tunnelling 76 = .ok (.getfield 60, 3) := by decide +kernel
theorem dX11_tunnelling_79 : decode cX11_tunnelling 79 = .ok (.iload_n 1, 1) := by decide +kernel
theorem dX11_tunnelling_80 : decode cX11_tunnelling 80 = .ok (.iconst 0, 1) := by decide +kernel
theorem dX11_tunnelling_81 : decode cX11_tunnelling 81 = .ok (.iastore, 1) := by decide +kernel
theorem dX11_tunnelling_82 : decode cX11_tunnelling 82 = .ok (.aload_n 0, 1) := by decide +kernel
theorem dX11_tunnelling_83 : decode cX11_tunnelling 83 = .ok (.ldc2_w 284, 3) := by decide +kernel
theorem dX11_tunnelling_86 : decode cX11_tunnelling 86 = .ok (.invokevirtual 391, 3) := by decide +kernel
theorem dX11_tunnelling_89 : decode cX11_tunnelling 89 = .ok (.aload_n 0, 1) := by decide +kernel
theorem dX11_tunnelling_90 : decode cX11_tunnelling 90 = .ok (.getfield 36, 3) := by decide +kernel
theorem dX11_tunnelling_93 : decode cX11_tunnelling 93 = .ok (.ifCond .ne 7, 3) := by decide +kernel
theorem dX11_tunnelling_96 : decode cX11_tunnelling 96 = .ok (.iconst 1, 1) := by decide +kernel
theorem dX11_tunnelling_97 : decode cX11_tunnelling 97 = .ok (.goto 4, 3) := by decide +kernel
theorem dX11_tunnelling_100 : decode cX11_tunnelling 100 = .ok (.iconst 0, 1) := by decide +kernel
theorem dX11_tunnelling_101 : decode cX11_tunnelling 101 = .ok (.istore_n 2, 1) := by decide +kernel
theorem dX11_tunnelling_102 : decode cX11_tunnelling 102 = .ok (.iload_n 2, 1) := by decide +kernel
theorem dX11_tunnelling_103 : decode cX11_tunnelling 103 = .ok (.ifCond .eq 188, 3) := by decide +kernel
theorem dX11_tunnelling_106 : decode cX11_tunnelling 106 = .ok (.aload_n 0, 1) := by decide +kernel
theorem dX11_tunnelling_107 : decode cX11_tunnelling 107 = .ok (.getfield 60, 3) := by decide +kernel
theorem dX11_tunnelling_110 : decode cX11_tunnelling 110 = .ok (.iload_n 1, 1) := by decide +kernel
theorem dX11_tunnelling_111 : decode cX11_tunnelling 111 = .ok (.iaload, 1) := by decide +kernel
theorem dX11_tunnelling_112 : decode cX11_tunnelling 112 = .ok (.istore_n 3, 1) := by decide +kernel
theorem dX11_tunnelling_113 : decode cX11_tunnelling 113 = .ok (.aload_n 0, 1) := by decide +kernel
theorem dX11_tunnelling_114 : decode cX11_tunnelling 114 = .ok (.iconst 1, 1) := by decide +kernel
theorem dX11_tunnelling_115 : decode cX11_tunnelling 115 = .ok (.bipush 60, 2) := by decide +kernel
theorem dX11_tunnelling_117 : decode cX11_tunnelling 117 = .ok (.invokevirtual 342, 3) := by decide +kernel
theorem dX11_tunnelling_120 : decode cX11_tunnelling 120 = .ok (.istore 4, 2) := by decide +kernel
theorem dX11_tunnelling_122 : decode cX11_tunnelling 122 = .ok (.iconst 0, 1) := by decide +kernel
theorem dX11_tunnelling_123 : decode cX11_tunnelling 123 = .ok (.istore 5, 2) := by decide +kernel
theorem dX11_tunnelling_125 : decode cX11_tunnelling 125 = .ok (.iload 5, 2) := by decide +kernel
theorem dX11_tunnelling_127 : decode cX11_tunnelling 127 = .ok (.iload_n 3, 1) := by decide +kernel
theorem dX11_tunnelling_128 : decode cX11_tunnelling 128 = .ok (.if_icmp .ge 41, 3) := by decide +kernel
theorem dX11_tunnelling_131 : decode cX11_tunnelling 131 = .ok (.aload_n 0, 1) := by decide +kernel
theorem dX11_tunnelling_132 : decode cX11_tunnelling 132 = .ok (.getfield 36, 3) := by decide +kernel
theorem dX11_tunnelling_135 : decode cX11_tunnelling 135 = .ok (.ifCond .ne 34, 3) := by decide +kernel
theorem dX11_tunnelling_138 : decode cX11_tunnelling 138 = .ok (.aload_n 0, 1) := by decide +kernel
theorem dX11_tunnelling_139 : decode cX11_tunnelling 139 = .ok (.getfield 63, 3) := by decide +kernel
theorem dX11_tunnelling_142 : decode cX11_tunnelling 142 = .ok (.iconst 4, 1) := by decide +kernel
theorem dX11_tunnelling_143 : decode cX11_tunnelling 143 = .ok (.iload_n 1, 1) := by decide +kernel
theorem dX11_tunnelling_144 : decode cX11_tunnelling 144 = .ok (.imul, 1) := by decide +kernel
theorem dX11_tunnelling_145 : decode cX11_tunnelling 145 = .ok (.iload 5, 2) := by decide +kernel
theorem dX11_tunnelling_147 : decode cX11_tunnelling 147 = .ok (.iadd, 1) := by decide +kernel
theorem dX11_tunnelling_148 : decode cX11_tunnelling 148 = .ok (.iaload, 1) := by decide +kernel
theorem dX11_tunnelling_149 : decode cX11_tunnelling 149 = .ok (.iload 4, 2) := by decide +kernel
theorem dX11_tunnelling_151 : decode cX11_tunnelling 151 = .ok (.if_icmp .ne 12, 3) := by decide +kernel
theorem dX11_tunnelling_154 : decode cX11_tunnelling 154 = .ok (.aload_n 0, 1) := by decide +kernel
theorem dX11_tunnelling_155 : decode cX11_tunnelling 155 = .ok (.iconst 4, 1) := by decide +kernel
theorem dX11_tunnelling_156 : decode cX11_tunnelling 156 = .ok (.aload_n 0, 1) := by decide +kernel
theorem dX11_tunnelling_157 : decode cX11_tunnelling 157 = .ok (.getfield 23, 3) := by decide +kernel
theorem dX11_tunnelling_160 : decode cX11_tunnelling 160 = .ok (.invokevirtual 260, 3) := by decide +kernel
theorem dX11_tunnelling_163 : decode cX11_tunnelling 163 = .ok (.iinc 5 1, 3) := by decide +kernel
theorem dX11_tunnelling_166 : decode cX11_tunnelling 166 = .ok (.goto (-41), 3) := by decide +kernel
theorem dX11_tunnelling_169 : decode cX11_tunnelling 169 = .ok (.aload_n 0, 1) := by decide +kernel
theorem dX11_tunnelling_170 : decode cX11_tunnelling 170 = .ok (.getfield 36, 3) := by decide +kernel
theorem dX11_tunnelling_173 : decode cX11_tunnelling 173 = .ok (.ifCond .ne 7, 3) := by decide +kernel
theorem dX11_tunnelling_176 : decode cX11_tunnelling 176 = .ok (.aload_n 0, 1) := by decide +kernel
theorem dX11_tunnelling_177 : decode cX11_tunnelling 177 = .ok (.invokevirtual 277, 3) := by decide +kernel
theorem dX11_tunnelling_180 : decode cX11_tunnelling 180 = .ok (.aload_n 0, 1) := by decide +kernel
theorem dX11_tunnelling_181 : decode cX11_tunnelling 181 = .ok (.ldc2_w 286, 3) := by decide +kernel
theorem dX11_tunnelling_184 : decode cX11_tunnelling 184 = .ok (.invokevirtual 391, 3) := by decide +kernel
theorem dX11_tunnelling_187 : decode cX11_tunnelling 187 = .ok (.aload_n 0, 1) := by decide +kernel
theorem dX11_tunnelling_188 : decode cX11_tunnelling 188 = .ok (.iconst 1, 1) := by decide +kernel
theorem dX11_tunnelling_189 : decode cX11_tunnelling 189 = .ok (.bipush 9, 2) := by decide +kernel
theorem dX11_tunnelling_191 : decode cX11_tunnelling 191 = .ok (.invokevirtual 395, 3) := by decide +kernel
theorem dX11_tunnelling_194 : decode cX11_tunnelling 194 = .ok (.istore 5, 2) := by decide +kernel
theorem dX11_tunnelling_196 : decode cX11_tunnelling 196 = .ok (.aload_n 0, 1) := by decide +kernel
theorem dX11_tunnelling_197 : decode cX11_tunnelling 197 = .ok (.getfield 36, 3) := by decide +kernel
theorem dX11_tunnelling_200 : decode cX11_tunnelling 200 = .ok (.ifCond .ne 37, 3) := by decide +kernel
theorem dX11_tunnelling_203 : decode cX11_tunnelling 203 = .ok (.aload_n 0, 1) := by decide +kernel
theorem dX11_tunnelling_204 : decode cX11_tunnelling 204 = .ok (.getfield 63, 3) := by decide +kernel
theorem dX11_tunnelling_207 : decode cX11_tunnelling 207 = .ok (.iconst 4, 1) := by decide +kernel
theorem dX11_tunnelling_208 : decode cX11_tunnelling 208 = .ok (.iload_n 1, 1) := by decide +kernel
theorem dX11_tunnelling_209 : decode cX11_tunnelling 209 = .ok (.imul, 1) := by decide +kernel
theorem dX11_tunnelling_210 : decode cX11_tunnelling 210 = .ok (.iload_n 3, 1) := by decide +kernel
theorem dX11_tunnelling_211 : decode cX11_tunnelling 211 = .ok (.iadd, 1) := by decide +kernel
theorem dX11_tunnelling_212 : decode cX11_tunnelling 212 = .ok (.iload 4, 2) := by decide +kernel
theorem dX11_tunnelling_214 : decode cX11_tunnelling 214 = .ok (.iastore, 1) := by decide +kernel
theorem dX11_tunnelling_215 : decode cX11_tunnelling 215 = .ok (.aload_n 0, 1) := by decide +kernel
theorem dX11_tunnelling_216 : decode cX11_tunnelling 216 = .ok (.getfield 66, 3) := by decide +kernel
theorem dX11_tunnelling_219 : decode cX11_tunnelling 219 = .ok (.iconst 4, 1) := by decide +kernel
theorem dX11_tunnelling_220 : decode cX11_tunnelling 220 = .ok (.iload_n 1, 1) := by decide +kernel
theorem dX11_tunnelling_221 : decode cX11_tunnelling 221 = .ok (.imul, 1) := by decide +kernel
theorem dX11_tunnelling_222 : decode cX11_tunnelling 222 = .ok (.iload_n 3, 1) := by decide +kernel
theorem dX11_tunnelling_223 : decode cX11_tunnelling 223 = .ok (.iadd, 1) := by decide +kernel
theorem dX11_tunnelling_224 : decode cX11_tunnelling 224 = .ok (.iload 5, 2) := by decide +kernel
theorem dX11_tunnelling_226 : decode cX11_tunnelling 226 = .ok (.iastore, 1) := by decide +kernel
theorem dX11_tunnelling_227 : decode cX11_tunnelling 227 = .ok (.aload_n 0, 1) := by decide +kernel
theorem dX11_tunnelling_228 : decode cX11_tunnelling 228 = .ok (.getfield 60, 3) := by decide +kernel
theorem dX11_tunnelling_231 : decode cX11_tunnelling 231 = .ok (.iload_n 1, 1) := by decide +kernel
theorem dX11_tunnelling_232 : decode cX11_tunnelling 232 = .ok (.dup2, 1) := by decide +kernel
theorem dX11_tunnelling_233 : decode cX11_tunnelling 233 = .ok (.iaload, 1) := by decide +kernel
theorem dX11_tunnelling_234 : decode cX11_tunnelling 234 = .ok (.iconst 1, 1) := by decide +kernel
theorem dX11_tunnelling_235 : decode cX11_tunnelling 235 = .ok (.iadd, 1) := by decide +kernel
theorem dX11_tunnelling_236 : decode cX11_tunnelling 236 = .ok (.iastore, 1) := by decide +kernel
theorem dX11_tunnelling_237 : decode cX11_tunnelling 237 = .ok (.aload_n 0, 1) := by decide +kernel
theorem dX11_tunnelling_238 : decode cX11_tunnelling 238 = .ok (.invokevirtual 271, 3) := by decide +kernel
theorem dX11_tunnelling_241 : decode cX11_tunnelling 241 = .ok (.aload_n 0, 1) := by decide +kernel
theorem dX11_tunnelling_242 : decode cX11_tunnelling 242 = .ok (.getfield 36, 3) := by decide +kernel
theorem dX11_tunnelling_245 : decode cX11_tunnelling 245 = .ok (.ifCond .ne 17, 3) := by decide +kernel
theorem dX11_tunnelling_248 : decode cX11_tunnelling 248 = .ok (.aload_n 0, 1) := by decide +kernel
theorem dX11_tunnelling_249 : decode cX11_tunnelling 249 = .ok (.ldc2_w 284, 3) := by decide +kernel
theorem dX11_tunnelling_252 : decode cX11_tunnelling 252 = .ok (.invokevirtual 357, 3) := by decide +kernel
theorem dX11_tunnelling_255 : decode cX11_tunnelling 255 = .ok (.ifCond .eq 7, 3) := by decide +kernel
theorem dX11_tunnelling_258 : decode cX11_tunnelling 258 = .ok (.iconst 1, 1) := by decide +kernel
theorem dX11_tunnelling_259 : decode cX11_tunnelling 259 = .ok (.goto 4, 3) := by decide +kernel
theorem dX11_tunnelling_262 : decode cX11_tunnelling 262 = .ok (.iconst 0, 1) := by decide +kernel
theorem dX11_tunnelling_263 : decode cX11_tunnelling 263 = .ok (.istore_n 2, 1) := by decide +kernel
theorem dX11_tunnelling_264 : decode cX11_tunnelling 264 = .ok (.iload_n 2, 1) := by decide +kernel
theorem dX11_tunnelling_265 : decode cX11_tunnelling 265 = .ok (.ifCond .eq 23, 3) := by decide +kernel
theorem dX11_tunnelling_268 : decode cX11_tunnelling 268 = .ok (.aload_n 0, 1) := by decide +kernel
theorem dX11_tunnelling_269 : decode cX11_tunnelling 269 = .ok (.aload_n 0, 1) := by decide +kernel
theorem dX11_tunnelling_270 : decode cX11_tunnelling 270 = .ok (.getfield 60, 3) := by decide +kernel
theorem dX11_tunnelling_273 : decode cX11_tunnelling 273 = .ok (.iload_n 1, 1) := by decide +kernel
theorem dX11_tunnelling_274 : decode cX11_tunnelling 274 = .ok (.iaload, 1) := by decide +kernel
theorem dX11_tunnelling_275 : decode cX11_tunnelling 275 = .ok (.iconst 4, 1) := by decide +kernel
theorem dX11_tunnelling_276 : decode cX11_tunnelling 276 = .ok (.if_icmp .ne 7, 3) := by decide +kernel
theorem dX11_tunnelling_279 : decode cX11_tunnelling 279 = .ok (.iconst 1, 1) := by decide +kernel
theorem dX11_tunnelling_280 : decode cX11_tunnelling 280 = .ok (.goto 4, 3) := by decide +kernel
theorem dX11_tunnelling_283 : decode cX11_tunnelling 283 = .ok (.iconst 0, 1) := by decide +kernel
theorem dX11_tunnelling_284 : decode cX11_tunnelling 284 = .ok (.invokevirtual 383, 3) := by decide +kernel
theorem dX11_tunnelling_287 : decode cX11_tunnelling 287 = .ok (.istore_n 2, 1) := by decide +kernel
theorem dX11_tunnelling_288 : decode cX11_tunnelling 288 = .ok (.goto (-186), 3) := by decide +kernel
theorem dX11_tunnelling_291 : decode cX11_tunnelling 291 = .ok (.aload_n 0, 1) := by decide +kernel
theorem dX11_tunnelling_292 : decode cX11_tunnelling 292 = .ok (.getfield 36, 3) := by decide +kernel
theorem dX11_tunnelling_295 : decode cX11_tunnelling 295 = .ok (.ifCond .ne 16, 3) := by decide +kernel
theorem dX11_tunnelling_298 : decode cX11_tunnelling 298 = .ok (.aload_n 0, 1) := by decide +kernel
theorem dX11_tunnelling_299 : decode cX11_tunnelling 299 = .ok (.getfield 54, 3) := by decide +kernel
theorem dX11_tunnelling_302 : decode cX11_tunnelling 302 = .ok (.aload_n 0, 1) := by decide +kernel
theorem dX11_tunnelling_303 : decode cX11_tunnelling 303 = .ok (.getfield 118, 3) := by decide +kernel
theorem dX11_tunnelling_306 : decode cX11_tunnelling 306 = .ok (.dup2, 1) := by decide +kernel
theorem dX11_tunnelling_307 : decode cX11_tunnelling 307 = .ok (.iaload, 1) := by decide +kernel
theorem dX11_tunnelling_308 : decode cX11_tunnelling 308 = .ok (.iconst 1, 1) := by decide +kernel
theorem dX11_tunnelling_309 : decode cX11_tunnelling 309 = .ok (.iadd, 1) := by decide +kernel
theorem dX11_tunnelling_310 : decode cX11_tunnelling 310 = .ok (.iastore, 1) := by decide +kernel
theorem dX11_tunnelling_311 : decode cX11_tunnelling 311 = .ok (.return_, 1) := by decide +kernel
def fX11_tunnelling_288 (r102 : Int32 → Int32 → zS → Option zS) (x1 : Int32) (x2 : Int32) (σ : zS) : Option zS := r102 x1 x2 σ
theorem kX11_tunnelling_288 {sc : Nat × (Nat → Int32)} (r102 : Int32 → Int32 → zS → Option zS) (hr102 : ∀ (x1 : Int32) (x2 : Int32) (σ : zS) (w : zS), r102 x1 x2 σ = some w → zR (zY0 sc) 5 0 0 mX11_tunnelling 102 [(0, .ref 56), (1, .int x1), (2, .int x2)] [] (zE σ) (none, zE w)) (x1 : Int32) (x2 : Int32) (σ : zS) (w : zS) (h : fX11_tunnelling_288 r102 x1 x2 σ = some w) : zR (zY0 sc) 5 0 0 mX11_tunnelling 288 [(0, .ref 56), (1, .int x1), (2, .int x2)] [] (zE σ) (none, zE w) := by
  unfold fX11_tunnelling_288 at h
  refine zR.goto (tgt := 102) dX11_tunnelling_288 (by decide) ?_
  exact hr102 _ _ _ _ h
def fX11_tunnelling_284 (r102 : Int32 → Int32 → zS → Option zS) (x1 : Int32) (s0 : Int32) (σ : zS) : Option zS := bnc (fX11_counts s0 σ) fun v35 σ33 => fX11_tunnelling_288 r102 x1 v35 σ33
theorem kX11_tunnelling_284 {sc : Nat × (Nat → Int32)} (r102 : Int32 → Int32 → zS → Option zS) (hr102 : ∀ (x1 : Int32) (x2 : Int32) (σ : zS) (w : zS), r102 x1 x2 σ = some w → zR (zY0 sc) 5 0 0 mX11_tunnelling 102 [(0, .ref 56), (1, .int x1), (2, .int x2)] [] (zE σ) (none, zE w)) (x1 : Int32) (s0 : Int32) (σ : zS) (w : zS) (h : fX11_tunnelling_284 r102 x1 s0 σ = some w) : zR (zY0 sc) 5 0 0 mX11_tunnelling 284 [(0, .ref 56), (1, .int x1)] [.int s0, .ref 56] (zE σ) (none, zE w) := by
  unfold fX11_tunnelling_284 at h
  obtain ⟨v35, σ33, e34, h⟩ := bnc_some h
  refine kR.cVi [.int s0] dX11_tunnelling_284 rfl (by decide) mwX11_383 zp56 (by decide) rfl rfl (Nat.le_of_ble_eq_true rfl) (lX11_counts s0 σ _ e34) ?_
  refine zR.istore_n (i := 2) (ls' := [(2, .int v35), (0, .ref 56), (1, .int x1)]) dX11_tunnelling_287 rfl (by decide) rfl ?_
  refine zR.sub [1, 2, 0] rfl ?_
  exact kX11_tunnelling_288 r102 hr102 _ _ _ _ h
def fX11_tunnelling_263 (r102 : Int32 → Int32 → zS → Option zS) (x1 : Int32) (s0 : Int32) (σ : zS) : Option zS := if s0 = 0 then fX11_tunnelling_288 r102 x1 s0 σ else aI σ 60 12 x1 fun v32 => if v32 = 4 then fX11_tunnelling_284 r102 x1 1 σ else fX11_tunnelling_284 r102 x1 0 σ
theorem kX11_tunnelling_263 {sc : Nat × (Nat → Int32)} (r102 : Int32 → Int32 → zS → Option zS) (hr102 : ∀ (x1 : Int32) (x2 : Int32) (σ : zS) (w : zS), r102 x1 x2 σ = some w → zR (zY0 sc) 5 0 0 mX11_tunnelling 102 [(0, .ref 56), (1, .int x1), (2, .int x2)] [] (zE σ) (none, zE w)) (x1 : Int32) (s0 : Int32) (σ : zS) (w : zS) (h : fX11_tunnelling_263 r102 x1 s0 σ = some w) : zR (zY0 sc) 5 0 0 mX11_tunnelling 263 [(0, .ref 56), (1, .int x1)] [.int s0] (zE σ) (none, zE w) := by
  unfold fX11_tunnelling_263 at h
  refine zR.istore_n (i := 2) (ls' := [(2, .int s0), (0, .ref 56), (1, .int x1)]) dX11_tunnelling_263 rfl (by decide) rfl ?_
  refine kR.iload_n dX11_tunnelling_264 0 rfl ?_
  refine kR.if_eq (tgt := 288) dX11_tunnelling_265 (by decide) h (fun h => ?_) (fun h => ?_)
  · refine zR.sub [1, 2, 0] rfl ?_
    exact kX11_tunnelling_288 r102 hr102 _ _ _ _ h
  · refine kR.aload_n dX11_tunnelling_268 1 rfl ?_
    refine kR.aload_n dX11_tunnelling_269 1 rfl ?_
    refine kR.getR (v := 60) dX11_tunnelling_270 flX11_60 zcf11 zp56 (Or.inr ⟨_, rfl⟩) rfl ?_
    refine kR.iload_n dX11_tunnelling_273 2 rfl ?_
    refine kR.iald dX11_tunnelling_274 zp60 rfl h (fun v32 h => ?_)
    refine zR.iconst (v := 4) dX11_tunnelling_275 (by decide) ?_
    refine kR.icmp_ne (tgt := 283) dX11_tunnelling_276 (by decide) h (fun h => ?_) (fun h => ?_)
    · refine zR.iconst (v := 0) dX11_tunnelling_283 (by decide) ?_
      refine zR.sub [1, 2] rfl ?_
      exact kX11_tunnelling_284 r102 hr102 _ _ _ _ h
    · refine zR.iconst (v := 1) dX11_tunnelling_279 (by decide) ?_
      refine zR.goto (tgt := 284) dX11_tunnelling_280 (by decide) ?_
      refine zR.sub [1, 2] rfl ?_
      exact kX11_tunnelling_284 r102 hr102 _ _ _ _ h
def fX11_tunnelling_262 (r102 : Int32 → Int32 → zS → Option zS) (x1 : Int32) (σ : zS) : Option zS := fX11_tunnelling_263 r102 x1 0 σ
theorem kX11_tunnelling_262 {sc : Nat × (Nat → Int32)} (r102 : Int32 → Int32 → zS → Option zS) (hr102 : ∀ (x1 : Int32) (x2 : Int32) (σ : zS) (w : zS), r102 x1 x2 σ = some w → zR (zY0 sc) 5 0 0 mX11_tunnelling 102 [(0, .ref 56), (1, .int x1), (2, .int x2)] [] (zE σ) (none, zE w)) (x1 : Int32) (σ : zS) (w : zS) (h : fX11_tunnelling_262 r102 x1 σ = some w) : zR (zY0 sc) 5 0 0 mX11_tunnelling 262 [(0, .ref 56), (1, .int x1)] [] (zE σ) (none, zE w) := by
  unfold fX11_tunnelling_262 at h
  refine zR.iconst (v := 0) dX11_tunnelling_262 (by decide) ?_
  exact kX11_tunnelling_263 r102 hr102 _ _ _ _ h
def fX11_tunnelling_237 (r102 : Int32 → Int32 → zS → Option zS) (x1 : Int32) (σ : zS) : Option zS := bnr (fX11_lex σ) fun σ30 => if (iG σ30 56 8) = 0 then if (fX11_isWord σ30 24948) = 0 then fX11_tunnelling_262 r102 x1 σ30 else fX11_tunnelling_263 r102 x1 1 σ30 else fX11_tunnelling_262 r102 x1 σ30
theorem kX11_tunnelling_237 {sc : Nat × (Nat → Int32)} (r102 : Int32 → Int32 → zS → Option zS) (hr102 : ∀ (x1 : Int32) (x2 : Int32) (σ : zS) (w : zS), r102 x1 x2 σ = some w → zR (zY0 sc) 5 0 0 mX11_tunnelling 102 [(0, .ref 56), (1, .int x1), (2, .int x2)] [] (zE σ) (none, zE w)) (x1 : Int32) (σ : zS) (w : zS) (h : fX11_tunnelling_237 r102 x1 σ = some w) : zR (zY0 sc) 5 0 0 mX11_tunnelling 237 [(0, .ref 56), (1, .int x1)] [] (zE σ) (none, zE w) := by
  unfold fX11_tunnelling_237 at h
  refine kR.aload_n dX11_tunnelling_237 0 rfl ?_
  obtain ⟨σ30, e31, h⟩ := bnr_some h
  refine kR.cVv [] dX11_tunnelling_238 rfl (by decide) mwX11_271 zp56 (by decide) rfl rfl (Nat.le_of_ble_eq_true rfl) (lX11_lex σ _ e31) ?_
  refine kR.aload_n dX11_tunnelling_241 0 rfl ?_
  refine kR.getI dX11_tunnelling_242 flX11_36 zcf11 zp56 (Or.inl rfl) ?_
  refine kR.if_ne (tgt := 262) dX11_tunnelling_245 (by decide) h (fun h => ?_) (fun h => ?_)
  · exact kX11_tunnelling_262 r102 hr102 _ _ _ h
  · refine kR.aload_n dX11_tunnelling_248 0 rfl ?_
    refine zR.ldc2 (v := 24948) dX11_tunnelling_249 clX11_284 ?_
    refine kR.cVi [.long 24948] dX11_tunnelling_252 rfl (by decide) mwX11_357 zp56 (by decide) rfl rfl (Nat.le_of_ble_eq_true rfl) (lX11_isWord σ30 24948) ?_
    refine kR.if_eq (tgt := 262) dX11_tunnelling_255 (by decide) h (fun h => ?_) (fun h => ?_)
    · exact kX11_tunnelling_262 r102 hr102 _ _ _ h
    · refine zR.iconst (v := 1) dX11_tunnelling_258 (by decide) ?_
      refine zR.goto (tgt := 263) dX11_tunnelling_259 (by decide) ?_
      exact kX11_tunnelling_263 r102 hr102 _ _ _ _ h
def fX11_tunnelling_180 (r102 : Int32 → Int32 → zS → Option zS) (x1 : Int32) (x3 : Int32) (x4 : Int32) (σ : zS) : Option zS := bnr (fX11_must_ 131277443786867 σ) fun σ25 => bnc (fX11_number 1 9 σ25) fun v29 σ27 => if (iG σ27 56 8) = 0 then wI σ27 61 48 ((4 * x1) + x3) x4 fun σ36 => wI σ36 62 48 ((4 * x1) + x3) v29 fun σ37 => aI σ37 60 12 x1 fun v38 => wI σ37 60 12 x1 (v38 + 1) fun σ39 => fX11_tunnelling_237 r102 x1 σ39 else fX11_tunnelling_237 r102 x1 σ27
theorem kX11_tunnelling_180 {sc : Nat × (Nat → Int32)} (r102 : Int32 → Int32 → zS → Option zS) (hr102 : ∀ (x1 : Int32) (x2 : Int32) (σ : zS) (w : zS), r102 x1 x2 σ = some w → zR (zY0 sc) 5 0 0 mX11_tunnelling 102 [(0, .ref 56), (1, .int x1), (2, .int x2)] [] (zE σ) (none, zE w)) (x1 : Int32) (x3 : Int32) (x4 : Int32) (σ : zS) (w : zS) (h : fX11_tunnelling_180 r102 x1 x3 x4 σ = some w) : zR (zY0 sc) 5 0 0 mX11_tunnelling 180 [(0, .ref 56), (1, .int x1), (3, .int x3), (4, .int x4)] [] (zE σ) (none, zE w) := by
  unfold fX11_tunnelling_180 at h
  refine kR.aload_n dX11_tunnelling_180 0 rfl ?_
  refine zR.ldc2 (v := 131277443786867) dX11_tunnelling_181 clX11_286 ?_
  obtain ⟨σ25, e26, h⟩ := bnr_some h
  refine kR.cVv [.long 131277443786867] dX11_tunnelling_184 rfl (by decide) mwX11_391 zp56 (by decide) rfl rfl (Nat.le_of_ble_eq_true rfl) (lX11_must_ 131277443786867 σ _ e26) ?_
  refine kR.aload_n dX11_tunnelling_187 0 rfl ?_
  refine zR.iconst (v := 1) dX11_tunnelling_188 (by decide) ?_
  refine zR.bipush (v := 9) dX11_tunnelling_189 (by decide) ?_
  obtain ⟨v29, σ27, e28, h⟩ := bnc_some h
  refine kR.cVi [.int 1, .int 9] dX11_tunnelling_191 rfl (by decide) mwX11_395 zp56 (by decide) rfl rfl (Nat.le_of_ble_eq_true rfl) (lX11_number 1 9 σ25 _ e28) ?_
  refine zR.istore (i := 5) (ls' := [(5, .int v29), (0, .ref 56), (1, .int x1), (3, .int x3), (4, .int x4)]) dX11_tunnelling_194 (by decide) rfl ?_
  refine kR.aload_n dX11_tunnelling_196 1 rfl ?_
  refine kR.getI dX11_tunnelling_197 flX11_36 zcf11 zp56 (Or.inl rfl) ?_
  refine kR.if_ne (tgt := 237) dX11_tunnelling_200 (by decide) h (fun h => ?_) (fun h => ?_)
  · refine zR.sub [1, 2] rfl ?_
    exact kX11_tunnelling_237 r102 hr102 _ _ _ h
  · refine kR.aload_n dX11_tunnelling_203 1 rfl ?_
    refine kR.getR (v := 61) dX11_tunnelling_204 flX11_63 zcf11 zp56 (Or.inr ⟨_, rfl⟩) rfl ?_
    refine zR.iconst (v := 4) dX11_tunnelling_207 (by decide) ?_
    refine kR.iload_n dX11_tunnelling_208 2 rfl ?_
    refine zR.imul dX11_tunnelling_209 ?_
    refine kR.iload_n dX11_tunnelling_210 3 rfl ?_
    refine zR.iadd dX11_tunnelling_211 ?_
    refine kR.iload dX11_tunnelling_212 4 rfl ?_
    refine kR.iast dX11_tunnelling_214 zp61 rfl h (fun σ36 h => ?_)
    refine kR.aload_n dX11_tunnelling_215 1 rfl ?_
    refine kR.getR (v := 62) dX11_tunnelling_216 flX11_66 zcf11 zp56 (Or.inr ⟨_, rfl⟩) rfl ?_
    refine zR.iconst (v := 4) dX11_tunnelling_219 (by decide) ?_
    refine kR.iload_n dX11_tunnelling_220 2 rfl ?_
    refine zR.imul dX11_tunnelling_221 ?_
    refine kR.iload_n dX11_tunnelling_222 3 rfl ?_
    refine zR.iadd dX11_tunnelling_223 ?_
    refine kR.iload dX11_tunnelling_224 0 rfl ?_
    refine kR.iast dX11_tunnelling_226 zp62 rfl h (fun σ37 h => ?_)
    refine kR.aload_n dX11_tunnelling_227 1 rfl ?_
    refine kR.getR (v := 60) dX11_tunnelling_228 flX11_60 zcf11 zp56 (Or.inr ⟨_, rfl⟩) rfl ?_
    refine kR.iload_n dX11_tunnelling_231 2 rfl ?_
    refine zR.dup2 dX11_tunnelling_232 rfl rfl ?_
    refine kR.iald dX11_tunnelling_233 zp60 rfl h (fun v38 h => ?_)
    refine zR.iconst (v := 1) dX11_tunnelling_234 (by decide) ?_
    refine zR.iadd dX11_tunnelling_235 ?_
    refine kR.iast dX11_tunnelling_236 zp60 rfl h (fun σ39 h => ?_)
    refine zR.sub [1, 2] rfl ?_
    exact kX11_tunnelling_237 r102 hr102 _ _ _ h
def fX11_tunnelling_169 (r102 : Int32 → Int32 → zS → Option zS) (x1 : Int32) (x3 : Int32) (x4 : Int32) (σ : zS) : Option zS := if (iG σ 56 8) = 0 then bnr (fX11_ahead σ) fun σ40 => fX11_tunnelling_180 r102 x1 x3 x4 σ40 else fX11_tunnelling_180 r102 x1 x3 x4 σ
theorem kX11_tunnelling_169 {sc : Nat × (Nat → Int32)} (r102 : Int32 → Int32 → zS → Option zS) (hr102 : ∀ (x1 : Int32) (x2 : Int32) (σ : zS) (w : zS), r102 x1 x2 σ = some w → zR (zY0 sc) 5 0 0 mX11_tunnelling 102 [(0, .ref 56), (1, .int x1), (2, .int x2)] [] (zE σ) (none, zE w)) (x1 : Int32) (x3 : Int32) (x4 : Int32) (σ : zS) (w : zS) (h : fX11_tunnelling_169 r102 x1 x3 x4 σ = some w) : zR (zY0 sc) 5 0 0 mX11_tunnelling 169 [(0, .ref 56), (1, .int x1), (3, .int x3), (4, .int x4)] [] (zE σ) (none, zE w) := by
  unfold fX11_tunnelling_169 at h
  refine kR.aload_n dX11_tunnelling_169 0 rfl ?_
  refine kR.getI dX11_tunnelling_170 flX11_36 zcf11 zp56 (Or.inl rfl) ?_
  refine kR.if_ne (tgt := 180) dX11_tunnelling_173 (by decide) h (fun h => ?_) (fun h => ?_)
  · exact kX11_tunnelling_180 r102 hr102 _ _ _ _ _ h
  · refine kR.aload_n dX11_tunnelling_176 0 rfl ?_
    obtain ⟨σ40, e41, h⟩ := bnr_some h
    refine kR.cVv [] dX11_tunnelling_177 rfl (by decide) mwX11_277 zp56 (by decide) rfl rfl (Nat.le_of_ble_eq_true rfl) (lX11_ahead σ _ e41) ?_
    exact kX11_tunnelling_180 r102 hr102 _ _ _ _ _ h
def fX11_tunnelling_163 (r102 : Int32 → Int32 → zS → Option zS) (r125 : Int32 → Int32 → Int32 → Int32 → zS → Option zS) (x1 : Int32) (x3 : Int32) (x4 : Int32) (x5 : Int32) (σ : zS) : Option zS := r125 x1 x3 x4 (x5 + 1) σ
theorem kX11_tunnelling_163 {sc : Nat × (Nat → Int32)} (r102 : Int32 → Int32 → zS → Option zS) (r125 : Int32 → Int32 → Int32 → Int32 → zS → Option zS) (hr102 : ∀ (x1 : Int32) (x2 : Int32) (σ : zS) (w : zS), r102 x1 x2 σ = some w → zR (zY0 sc) 5 0 0 mX11_tunnelling 102 [(0, .ref 56), (1, .int x1), (2, .int x2)] [] (zE σ) (none, zE w)) (hr125 : ∀ (x1 : Int32) (x3 : Int32) (x4 : Int32) (x5 : Int32) (σ : zS) (w : zS), r125 x1 x3 x4 x5 σ = some w → zR (zY0 sc) 5 0 0 mX11_tunnelling 125 [(0, .ref 56), (1, .int x1), (3, .int x3), (4, .int x4), (5, .int x5)] [] (zE σ) (none, zE w)) (x1 : Int32) (x3 : Int32) (x4 : Int32) (x5 : Int32) (σ : zS) (w : zS) (h : fX11_tunnelling_163 r102 r125 x1 x3 x4 x5 σ = some w) : zR (zY0 sc) 5 0 0 mX11_tunnelling 163 [(0, .ref 56), (1, .int x1), (3, .int x3), (4, .int x4), (5, .int x5)] [] (zE σ) (none, zE w) := by
  unfold fX11_tunnelling_163 at h
  refine zR.iinc 4 (v := x5 + 1) (ls' := [(5, .int (x5 + 1)), (0, .ref 56), (1, .int x1), (3, .int x3), (4, .int x4)]) dX11_tunnelling_163 rfl rfl (by decide) rfl ?_
  refine zR.goto (tgt := 125) dX11_tunnelling_166 (by decide) ?_
  refine zR.sub [1, 2, 3, 4, 0] rfl ?_
  exact hr125 _ _ _ _ _ _ h
def fX11_tunnelling_125 (r102 : Int32 → Int32 → zS → Option zS) : Nat → Int32 → Int32 → Int32 → Int32 → zS → Option zS
  | 0, _, _, _, _, _ => none
  | f + 1, x1, x3, x4, x5, σ => if x3 ≤ x5 then fX11_tunnelling_169 r102 x1 x3 x4 σ else if (iG σ 56 8) = 0 then aI σ 61 48 ((4 * x1) + x5) fun v42 => if v42 = x4 then bnr (fX11_blame 4 (iG σ 56 4) σ) fun σ43 => fX11_tunnelling_163 r102 (fX11_tunnelling_125 r102 f) x1 x3 x4 x5 σ43 else fX11_tunnelling_163 r102 (fX11_tunnelling_125 r102 f) x1 x3 x4 x5 σ else fX11_tunnelling_169 r102 x1 x3 x4 σ
theorem kX11_tunnelling_125 {sc : Nat × (Nat → Int32)} (r102 : Int32 → Int32 → zS → Option zS) (hr102 : ∀ (x1 : Int32) (x2 : Int32) (σ : zS) (w : zS), r102 x1 x2 σ = some w → zR (zY0 sc) 5 0 0 mX11_tunnelling 102 [(0, .ref 56), (1, .int x1), (2, .int x2)] [] (zE σ) (none, zE w)) : ∀ (fuel : Nat) (x1 : Int32) (x3 : Int32) (x4 : Int32) (x5 : Int32) (σ : zS) (w : zS) (h : fX11_tunnelling_125 r102 fuel x1 x3 x4 x5 σ = some w), zR (zY0 sc) 5 0 0 mX11_tunnelling 125 [(0, .ref 56), (1, .int x1), (3, .int x3), (4, .int x4), (5, .int x5)] [] (zE σ) (none, zE w) := by
  intro fuel
  induction fuel with
  | zero => intro x1 x3 x4 x5 σ w h; exact nomatch h
  | succ f ih =>
    intro x1 x3 x4 x5 σ w h
    rw [fX11_tunnelling_125] at h
    refine kR.iload dX11_tunnelling_125 4 rfl ?_
    refine kR.iload_n dX11_tunnelling_127 2 rfl ?_
    refine kR.icmp_ge (tgt := 169) dX11_tunnelling_128 (by decide) h (fun h => ?_) (fun h => ?_)
    · refine zR.sub [0, 1, 2, 3] rfl ?_
      exact kX11_tunnelling_169 r102 hr102 _ _ _ _ _ h
    · refine kR.aload_n dX11_tunnelling_131 0 rfl ?_
      refine kR.getI dX11_tunnelling_132 flX11_36 zcf11 zp56 (Or.inl rfl) ?_
      refine kR.if_ne (tgt := 169) dX11_tunnelling_135 (by decide) h (fun h => ?_) (fun h => ?_)
      · refine zR.sub [0, 1, 2, 3] rfl ?_
        exact kX11_tunnelling_169 r102 hr102 _ _ _ _ _ h
      · refine kR.aload_n dX11_tunnelling_138 0 rfl ?_
        refine kR.getR (v := 61) dX11_tunnelling_139 flX11_63 zcf11 zp56 (Or.inr ⟨_, rfl⟩) rfl ?_
        refine zR.iconst (v := 4) dX11_tunnelling_142 (by decide) ?_
        refine kR.iload_n dX11_tunnelling_143 1 rfl ?_
        refine zR.imul dX11_tunnelling_144 ?_
        refine kR.iload dX11_tunnelling_145 4 rfl ?_
        refine zR.iadd dX11_tunnelling_147 ?_
        refine kR.iald dX11_tunnelling_148 zp61 rfl h (fun v42 h => ?_)
        refine kR.iload dX11_tunnelling_149 3 rfl ?_
        refine kR.icmp_ne (tgt := 163) dX11_tunnelling_151 (by decide) h (fun h => ?_) (fun h => ?_)
        · exact kX11_tunnelling_163 r102 (fX11_tunnelling_125 r102 f) hr102 ih _ _ _ _ _ _ h
        · refine kR.aload_n dX11_tunnelling_154 0 rfl ?_
          refine zR.iconst (v := 4) dX11_tunnelling_155 (by decide) ?_
          refine kR.aload_n dX11_tunnelling_156 0 rfl ?_
          refine kR.getI dX11_tunnelling_157 flX11_23 zcf11 zp56 (Or.inl rfl) ?_
          obtain ⟨σ43, e44, h⟩ := bnr_some h
          refine kR.cVv [.int 4, .int (iG σ 56 4)] dX11_tunnelling_160 rfl (by decide) mwX11_260 zp56 (by decide) rfl rfl (Nat.le_of_ble_eq_true rfl) (lX11_blame 4 (iG σ 56 4) σ _ e44) ?_
          exact kX11_tunnelling_163 r102 (fX11_tunnelling_125 r102 f) hr102 ih _ _ _ _ _ _ h
def fX11_tunnelling_102 : Nat → Int32 → Int32 → zS → Option zS
  | 0, _, _, _ => none
  | f + 1, x1, x2, σ => if x2 = 0 then if (iG σ 56 8) = 0 then aI σ 58 2 (iG σ 56 35) fun v19 => wI σ 58 2 (iG σ 56 35) (v19 + 1) fun σ20 => some σ20 else some σ else aI σ 60 12 x1 fun v21 => bnc (fX11_lookedAt 1 60 σ) fun v24 σ22 => fX11_tunnelling_125 (fX11_tunnelling_102 f) zF x1 v21 v24 0 σ22
theorem kX11_tunnelling_102 {sc : Nat × (Nat → Int32)} : ∀ (fuel : Nat) (x1 : Int32) (x2 : Int32) (σ : zS) (w : zS) (h : fX11_tunnelling_102 fuel x1 x2 σ = some w), zR (zY0 sc) 5 0 0 mX11_tunnelling 102 [(0, .ref 56), (1, .int x1), (2, .int x2)] [] (zE σ) (none, zE w) := by
  intro fuel
  induction fuel with
  | zero => intro x1 x2 σ w h; exact nomatch h
  | succ f ih =>
    intro x1 x2 σ w h
    rw [fX11_tunnelling_102] at h
    refine kR.iload_n dX11_tunnelling_102 2 rfl ?_
    refine kR.if_eq (tgt := 291) dX11_tunnelling_103 (by decide) h (fun h => ?_) (fun h => ?_)
    · refine kR.aload_n dX11_tunnelling_291 0 rfl ?_
      refine kR.getI dX11_tunnelling_292 flX11_36 zcf11 zp56 (Or.inl rfl) ?_
      refine kR.if_ne (tgt := 311) dX11_tunnelling_295 (by decide) h (fun h => ?_) (fun h => ?_)
      · exact kR.vret dX11_tunnelling_311 h
      · refine kR.aload_n dX11_tunnelling_298 0 rfl ?_
        refine kR.getR (v := 58) dX11_tunnelling_299 flX11_54 zcf11 zp56 (Or.inr ⟨_, rfl⟩) rfl ?_
        refine kR.aload_n dX11_tunnelling_302 0 rfl ?_
        refine kR.getI dX11_tunnelling_303 flX11_118 zcf11 zp56 (Or.inl rfl) ?_
        refine zR.dup2 dX11_tunnelling_306 rfl rfl ?_
        refine kR.iald dX11_tunnelling_307 zp58 rfl h (fun v19 h => ?_)
        refine zR.iconst (v := 1) dX11_tunnelling_308 (by decide) ?_
        refine zR.iadd dX11_tunnelling_309 ?_
        refine kR.iast dX11_tunnelling_310 zp58 rfl h (fun σ20 h => ?_)
        exact kR.vret dX11_tunnelling_311 h
    · refine kR.aload_n dX11_tunnelling_106 0 rfl ?_
      refine kR.getR (v := 60) dX11_tunnelling_107 flX11_60 zcf11 zp56 (Or.inr ⟨_, rfl⟩) rfl ?_
      refine kR.iload_n dX11_tunnelling_110 1 rfl ?_
      refine kR.iald dX11_tunnelling_111 zp60 rfl h (fun v21 h => ?_)
      refine zR.istore_n (i := 3) (ls' := [(3, .int v21), (0, .ref 56), (1, .int x1), (2, .int x2)]) dX11_tunnelling_112 rfl (by decide) rfl ?_
      refine kR.aload_n dX11_tunnelling_113 1 rfl ?_
      refine zR.iconst (v := 1) dX11_tunnelling_114 (by decide) ?_
      refine zR.bipush (v := 60) dX11_tunnelling_115 (by decide) ?_
      obtain ⟨v24, σ22, e23, h⟩ := bnc_some h
      refine kR.cVi [.int 1, .int 60] dX11_tunnelling_117 rfl (by decide) mwX11_342 zp56 (by decide) rfl rfl (Nat.le_of_ble_eq_true rfl) (lX11_lookedAt 1 60 σ _ e23) ?_
      refine zR.istore (i := 4) (ls' := [(4, .int v24), (3, .int v21), (0, .ref 56), (1, .int x1), (2, .int x2)]) dX11_tunnelling_120 (by decide) rfl ?_
      refine zR.iconst (v := 0) dX11_tunnelling_122 (by decide) ?_
      refine zR.istore (i := 5) (ls' := [(5, .int 0), (4, .int v24), (3, .int v21), (0, .ref 56), (1, .int x1), (2, .int x2)]) dX11_tunnelling_123 (by decide) rfl ?_
      refine zR.sub [3, 4, 2, 1, 0] rfl ?_
      exact kX11_tunnelling_125 (fX11_tunnelling_102 f) ih zF _ _ _ _ _ _ h
def fX11_tunnelling_101 (x1 : Int32) (s0 : Int32) (σ : zS) : Option zS := fX11_tunnelling_102 zF x1 s0 σ
theorem kX11_tunnelling_101 {sc : Nat × (Nat → Int32)} (x1 : Int32) (s0 : Int32) (σ : zS) (w : zS) (h : fX11_tunnelling_101 x1 s0 σ = some w) : zR (zY0 sc) 5 0 0 mX11_tunnelling 101 [(0, .ref 56), (1, .int x1)] [.int s0] (zE σ) (none, zE w) := by
  unfold fX11_tunnelling_101 at h
  refine zR.istore_n (i := 2) (ls' := [(2, .int s0), (0, .ref 56), (1, .int x1)]) dX11_tunnelling_101 rfl (by decide) rfl ?_
  refine zR.sub [1, 2, 0] rfl ?_
  exact kX11_tunnelling_102 zF _ _ _ _ h
def fX11_tunnelling_20 (s0 : Int32) (σ : zS) : Option zS := bnc (fX11_counts s0 σ) fun v4 σ2 => if v4 = 0 then some σ2 else aI σ2 58 2 (iG σ2 56 35) fun v5 => bnc (fX11_fresh σ2) fun v8 σ6 => wL σ6 76 12 ((6 * (iG σ2 56 35)) + v5) v8 fun σ9 => bnr (fX11_must_ 6775152 σ9) fun σ10 => bnc (fX11_number 0 99 σ10) fun v14 σ12 => wI σ12 59 12 ((6 * (iG σ2 56 35)) + v5) v14 fun σ15 => wI σ15 60 12 ((6 * (iG σ2 56 35)) + v5) 0 fun σ16 => bnr (fX11_must_ 24948 σ16) fun σ17 => if (iG σ17 56 8) = 0 then fX11_tunnelling_101 ((6 * (iG σ2 56 35)) + v5) 1 σ17 else fX11_tunnelling_101 ((6 * (iG σ2 56 35)) + v5) 0 σ17
theorem kX11_tunnelling_20 {sc : Nat × (Nat → Int32)} (s0 : Int32) (σ : zS) (w : zS) (h : fX11_tunnelling_20 s0 σ = some w) : zR (zY0 sc) 5 0 0 mX11_tunnelling 20 [(0, .ref 56)] [.int s0, .ref 56] (zE σ) (none, zE w) := by
  unfold fX11_tunnelling_20 at h
  obtain ⟨v4, σ2, e3, h⟩ := bnc_some h
  refine kR.cVi [.int s0] dX11_tunnelling_20 rfl (by decide) mwX11_383 zp56 (by decide) rfl rfl (Nat.le_of_ble_eq_true rfl) (lX11_counts s0 σ _ e3) ?_
  refine kR.if_ne (tgt := 27) dX11_tunnelling_23 (by decide) h (fun h => ?_) (fun h => ?_)
  · refine zR.bipush (v := 6) dX11_tunnelling_27 (by decide) ?_
    refine kR.aload_n dX11_tunnelling_29 0 rfl ?_
    refine kR.getI dX11_tunnelling_30 flX11_118 zcf11 zp56 (Or.inl rfl) ?_
    refine zR.imul dX11_tunnelling_33 ?_
    refine kR.aload_n dX11_tunnelling_34 0 rfl ?_
    refine kR.getR (v := 58) dX11_tunnelling_35 flX11_54 zcf11 zp56 (Or.inr ⟨_, rfl⟩) rfl ?_
    refine kR.aload_n dX11_tunnelling_38 0 rfl ?_
    refine kR.getI dX11_tunnelling_39 flX11_118 zcf11 zp56 (Or.inl rfl) ?_
    refine kR.iald dX11_tunnelling_42 zp58 rfl h (fun v5 h => ?_)
    refine zR.iadd dX11_tunnelling_43 ?_
    refine zR.istore_n (i := 1) (ls' := [(1, .int ((6 * (iG σ2 56 35)) + v5)), (0, .ref 56)]) dX11_tunnelling_44 rfl (by decide) rfl ?_
    refine kR.aload_n dX11_tunnelling_45 1 rfl ?_
    refine kR.getR (v := 76) dX11_tunnelling_46 flX11_108 zcf11 zp56 (Or.inr ⟨_, rfl⟩) rfl ?_
    refine kR.iload_n dX11_tunnelling_49 0 rfl ?_
    refine kR.aload_n dX11_tunnelling_50 1 rfl ?_
    obtain ⟨v8, σ6, e7, h⟩ := bnc_some h
    refine kR.cVl [] dX11_tunnelling_51 rfl (by decide) mwX11_387 zp56 (by decide) rfl rfl (Nat.le_of_ble_eq_true rfl) (lX11_fresh σ2 _ e7) ?_
    refine kR.last dX11_tunnelling_54 zp76 rfl h (fun σ9 h => ?_)
    refine kR.aload_n dX11_tunnelling_55 1 rfl ?_
    refine zR.ldc2 (v := 6775152) dX11_tunnelling_56 clX11_282 ?_
    obtain ⟨σ10, e11, h⟩ := bnr_some h
    refine kR.cVv [.long 6775152] dX11_tunnelling_59 rfl (by decide) mwX11_391 zp56 (by decide) rfl rfl (Nat.le_of_ble_eq_true rfl) (lX11_must_ 6775152 σ9 _ e11) ?_
    refine kR.aload_n dX11_tunnelling_62 1 rfl ?_
    refine kR.getR (v := 59) dX11_tunnelling_63 flX11_57 zcf11 zp56 (Or.inr ⟨_, rfl⟩) rfl ?_
    refine kR.iload_n dX11_tunnelling_66 0 rfl ?_
    refine kR.aload_n dX11_tunnelling_67 1 rfl ?_
    refine zR.iconst (v := 0) dX11_tunnelling_68 (by decide) ?_
    refine zR.bipush (v := 99) dX11_tunnelling_69 (by decide) ?_
    obtain ⟨v14, σ12, e13, h⟩ := bnc_some h
    refine kR.cVi [.int 0, .int 99] dX11_tunnelling_71 rfl (by decide) mwX11_395 zp56 (by decide) rfl rfl (Nat.le_of_ble_eq_true rfl) (lX11_number 0 99 σ10 _ e13) ?_
    refine kR.iast dX11_tunnelling_74 zp59 rfl h (fun σ15 h => ?_)
    refine kR.aload_n dX11_tunnelling_75 1 rfl ?_
    refine kR.getR (v := 60) dX11_tunnelling_76 flX11_60 zcf11 zp56 (Or.inr ⟨_, rfl⟩) rfl ?_
    refine kR.iload_n dX11_tunnelling_79 0 rfl ?_
    refine zR.iconst (v := 0) dX11_tunnelling_80 (by decide) ?_
    refine kR.iast dX11_tunnelling_81 zp60 rfl h (fun σ16 h => ?_)
    refine kR.aload_n dX11_tunnelling_82 1 rfl ?_
    refine zR.ldc2 (v := 24948) dX11_tunnelling_83 clX11_284 ?_
    obtain ⟨σ17, e18, h⟩ := bnr_some h
    refine kR.cVv [.long 24948] dX11_tunnelling_86 rfl (by decide) mwX11_391 zp56 (by decide) rfl rfl (Nat.le_of_ble_eq_true rfl) (lX11_must_ 24948 σ16 _ e18) ?_
    refine kR.aload_n dX11_tunnelling_89 1 rfl ?_
    refine kR.getI dX11_tunnelling_90 flX11_36 zcf11 zp56 (Or.inl rfl) ?_
    refine kR.if_ne (tgt := 100) dX11_tunnelling_93 (by decide) h (fun h => ?_) (fun h => ?_)
    · refine zR.iconst (v := 0) dX11_tunnelling_100 (by decide) ?_
      refine zR.sub [1, 0] rfl ?_
      exact kX11_tunnelling_101 _ _ _ _ h
    · refine zR.iconst (v := 1) dX11_tunnelling_96 (by decide) ?_
      refine zR.goto (tgt := 101) dX11_tunnelling_97 (by decide) ?_
      refine zR.sub [1, 0] rfl ?_
      exact kX11_tunnelling_101 _ _ _ _ h
  · exact kR.vret dX11_tunnelling_26 h
def fX11_tunnelling (σ : zS) : Option zS := aI σ 58 2 (iG σ 56 35) fun v1 => if v1 = 6 then fX11_tunnelling_20 1 σ else fX11_tunnelling_20 0 σ
theorem eX11_tunnelling {sc : Nat × (Nat → Int32)} (σ : zS) (w : zS) (h : fX11_tunnelling σ = some w) : zR (zY0 sc) 5 0 0 mX11_tunnelling 0 [(0, .ref 56)] [] (zE σ) (none, zE w) := by
  unfold fX11_tunnelling at h
  refine kR.aload_n dX11_tunnelling_0 0 rfl ?_
  refine kR.aload_n dX11_tunnelling_1 0 rfl ?_
  refine kR.getR (v := 58) dX11_tunnelling_2 flX11_54 zcf11 zp56 (Or.inr ⟨_, rfl⟩) rfl ?_
  refine kR.aload_n dX11_tunnelling_5 0 rfl ?_
  refine kR.getI dX11_tunnelling_6 flX11_118 zcf11 zp56 (Or.inl rfl) ?_
  refine kR.iald dX11_tunnelling_9 zp58 rfl h (fun v1 h => ?_)
  refine zR.bipush (v := 6) dX11_tunnelling_10 (by decide) ?_
  refine kR.icmp_ne (tgt := 19) dX11_tunnelling_12 (by decide) h (fun h => ?_) (fun h => ?_)
  · refine zR.iconst (v := 0) dX11_tunnelling_19 (by decide) ?_
    exact kX11_tunnelling_20 _ _ _ h
  · refine zR.iconst (v := 1) dX11_tunnelling_15 (by decide) ?_
    refine zR.goto (tgt := 20) dX11_tunnelling_16 (by decide) ?_
    exact kX11_tunnelling_20 _ _ _ h
theorem lX11_tunnelling {sc : Nat × (Nat → Int32)} (σ : zS) (w : zS) (h : fX11_tunnelling σ = some w) : zC (zY0 sc) 5 0 0 mX11_tunnelling [.ref 56] (zE σ) (none, zE w) := zC.of (by decide +kernel) (Nat.le_of_ble_eq_true rfl) rfl (eX11_tunnelling σ w h)
theorem dX11_holdering_0 : decode cX11_holdering 0 = .ok (.aload_n 0, 1) := by decide +kernel
theorem dX11_holdering_1 : decode cX11_holdering 1 = .ok (.aload_n 0, 1) := by decide +kernel
theorem dX11_holdering_2 : decode cX11_holdering 2 = .ok (.getfield 69, 3) := by decide +kernel
theorem dX11_holdering_5 : decode cX11_holdering 5 = .ok (.aload_n 0, 1) := by decide +kernel
theorem dX11_holdering_6 : decode cX11_holdering 6 = .ok (.getfield 118, 3) := by decide +kernel
theorem dX11_holdering_9 : decode cX11_holdering 9 = .ok (.iaload, 1) := by decide +kernel
theorem dX11_holdering_10 : decode cX11_holdering 10 = .ok (.bipush 6, 2) := by decide +kernel
theorem dX11_holdering_12 : decode cX11_holdering 12 = .ok (.if_icmp .ne 7, 3) := by decide +kernel
theorem dX11_holdering_15 : decode cX11_holdering 15 = .ok (.iconst 1, 1) := by decide +kernel
theorem dX11_holdering_16 : decode cX11_holdering 16 = .ok (.goto 4, 3) := by decide +kernel
theorem dX11_holdering_19 : decode cX11_holdering 19 = .ok (.iconst 0, 1) := by decide +kernel
theorem dX11_holdering_20 : decode cX11_holdering 20 = .ok (.invokevirtual 383, 3) := by decide +kernel
theorem dX11_holdering_23 : decode cX11_holdering 23 = .ok (.ifCond .ne 4, 3) := by decide +kernel
theorem dX11_holdering_26 : decode cX11_holdering 26 = .ok (.return_, 1) := by decide +kernel
theorem dX11_holdering_27 : decode cX11_holdering 27 = .ok (.bipush 6, 2) := by decide +kernel
theorem dX11_holdering_29 : decode cX11_holdering 29 = .ok (.aload_n 0, 1) := by decide +kernel
theorem dX11_holdering_30 : decode cX11_holdering 30 = .ok (.getfield 118, 3) := by decide +kernel
theorem dX11_holdering_33 : decode cX11_holdering 33 = .ok (.imul, 1) := by decide +kernel
theorem dX11_holdering_34 : decode cX11_holdering 34 = .ok (.aload_n 0, 1) := by decide +kernel
theorem dX11_holdering_35 : decode cX11_holdering 35 = .ok (.getfield 69, 3) := by decide +kernel
theorem dX11_holdering_38 : decode cX11_holdering 38 = .ok (.aload_n 0, 1) := by decide +kernel
theorem dX11_holdering_39 : decode cX11_holdering 39 = .ok (.getfield 118, 3) := by decide +kernel
theorem dX11_holdering_42 : decode cX11_holdering 42 = .ok (.iaload, 1) := by decide +kernel
theorem dX11_holdering_43 : decode cX11_holdering 43 = .ok (.iadd, 1) := by decide +kernel
theorem dX11_holdering_44 : decode cX11_holdering 44 = .ok (.istore_n 1, 1) := by decide +kernel
theorem dX11_holdering_45 : decode cX11_holdering 45 = .ok (.aload_n 0, 1) := by decide +kernel
theorem dX11_holdering_46 : decode cX11_holdering 46 = .ok (.getfield 112, 3) := by decide +kernel
theorem dX11_holdering_49 : decode cX11_holdering 49 = .ok (.iload_n 1, 1) := by decide +kernel
theorem dX11_holdering_50 : decode cX11_holdering 50 = .ok (.aload_n 0, 1) := by decide +kernel
theorem dX11_holdering_51 : decode cX11_holdering 51 = .ok (.invokevirtual 387, 3) := by decide +kernel
theorem dX11_holdering_54 : decode cX11_holdering 54 = .ok (.lastore, 1) := by decide +kernel
theorem dX11_holdering_55 : decode cX11_holdering 55 = .ok (.aload_n 0, 1) := by decide +kernel
theorem dX11_holdering_56 : decode cX11_holdering 56 = .ok (.ldc2_w 290, 3) := by decide +kernel
theorem dX11_holdering_59 : decode cX11_holdering 59 = .ok (.invokevirtual 391, 3) := by decide +kernel
theorem dX11_holdering_62 : decode cX11_holdering 62 = .ok (.aload_n 0, 1) := by decide +kernel
theorem dX11_holdering_63 : decode cX11_holdering 63 = .ok (.getfield 72, 3) := by decide +kernel
theorem dX11_holdering_66 : decode cX11_holdering 66 = .ok (.iload_n 1, 1) := by decide +kernel
theorem dX11_holdering_67 : decode cX11_holdering 67 = .ok (.aload_n 0, 1) := by decide +kernel
theorem dX11_holdering_68 : decode cX11_holdering 68 = .ok (.iconst 1, 1) := by decide +kernel
theorem dX11_holdering_69 : decode cX11_holdering 69 = .ok (.bipush 60, 2) := by decide +kernel
theorem dX11_holdering_71 : decode cX11_holdering 71 = .ok (.invokevirtual 395, 3) := by decide +kernel
theorem dX11_holdering_74 : decode cX11_holdering 74 = .ok (.iastore, 1) := by decide +kernel
theorem dX11_holdering_75 : decode cX11_holdering 75 = .ok (.aload_n 0, 1) := by decide +kernel
theorem dX11_holdering_76 : decode cX11_holdering 76 = .ok (.ldc2_w 292, 3) := by decide +kernel
theorem dX11_holdering_79 : decode cX11_holdering 79 = .ok (.invokevirtual 391, 3) := by decide +kernel
theorem dX11_holdering_82 : decode cX11_holdering 82 = .ok (.aload_n 0, 1) := by decide +kernel
theorem dX11_holdering_83 : decode cX11_holdering 83 = .ok (.getfield 75, 3) := by decide +kernel
theorem dX11_holdering_86 : decode cX11_holdering 86 = .ok (.iload_n 1, 1) := by decide +kernel
theorem dX11_holdering_87 : decode cX11_holdering 87 = .ok (.aload_n 0, 1) := by decide +kernel
theorem dX11_holdering_88 : decode cX11_holdering 88 = .ok (.iconst 0, 1) := by decide +kernel
theorem dX11_holdering_89 : decode cX11_holdering 89 = .ok (.bipush 50, 2) := by decide +kernel
theorem dX11_holdering_91 : decode cX11_holdering 91 = .ok (.invokevirtual 395, 3) := by decide +kernel
theorem dX11_holdering_94 : decode cX11_holdering 94 = .ok (.iastore, 1) := by decide +kernel
theorem dX11_holdering_95 : decode cX11_holdering 95 = .ok (.aload_n 0, 1) := by decide +kernel
theorem dX11_holdering_96 : decode cX11_holdering 96 = .ok (.getfield 78, 3) := by decide +kernel
theorem dX11_holdering_99 : decode cX11_holdering 99 = .ok (.iload_n 1, 1) := by decide +kernel
theorem dX11_holdering_100 : decode cX11_holdering 100 = .ok (.bipush 60, 2) := by decide +kernel
theorem dX11_holdering_102 : decode cX11_holdering 102 = .ok (.iastore, 1) := by decide +kernel
theorem dX11_holdering_103 : decode cX11_holdering 103 = .ok (.iconst 0, 1) := by decide +kernel
theorem dX11_holdering_104 : decode cX11_holdering 104 = .ok (.istore_n 2, 1) := by decide +kernel
theorem dX11_holdering_105 : decode cX11_holdering 105 = .ok (.iload_n 2, 1) := by decide +kernel
theorem dX11_holdering_106 : decode cX11_holdering 106 = .ok (.bipush 6, 2) := by decide +kernel
theorem dX11_holdering_108 : decode cX11_holdering 108 = .ok (.if_icmp .ge 21, 3) := by decide +kernel
theorem dX11_holdering_111 : decode cX11_holdering 111 = .ok (.aload_n 0, 1) := by decide +kernel
theorem dX11_holdering_112 : decode cX11_holdering 112 = .ok (.getfield 81, 3) := by decide +kernel
theorem dX11_holdering_115 : decode cX11_holdering 115 = .ok (.bipush 6, 2) := by decide +kernel
theorem dX11_holdering_117 : decode cX11_holdering 117 = .ok (.iload_n 1, 1) := by decide +kernel
theorem dX11_holdering_118 : decode cX11_holdering 118 = .ok (.imul, 1) := by decide +kernel
theorem dX11_holdering_119 : decode cX11_holdering 119 = .ok (.iload_n 2, 1) := by decide +kernel
theorem dX11_holdering_120 : decode cX11_holdering 120 = .ok (.iadd, 1) := by decide +kernel
theorem dX11_holdering_121 : decode cX11_holdering 121 = .ok (.iconst 0, 1) := by decide +kernel
theorem dX11_holdering_122 : decode cX11_holdering 122 = .ok (.iastore, 1) := by decide +kernel
theorem dX11_holdering_123 : decode cX11_holdering 123 = .ok (.iinc 2 1, 3) := by decide +kernel
theorem dX11_holdering_126 : decode cX11_holdering 126 = .ok (.goto (-21), 3) := by decide +kernel
theorem dX11_holdering_129 : decode cX11_holdering 129 = .ok (.aload_n 0, 1) := by decide +kernel
theorem dX11_holdering_130 : decode cX11_holdering 130 = .ok (.getfield 36, 3) := by decide +kernel
theorem dX11_holdering_133 : decode cX11_holdering 133 = .ok (.ifCond .ne 16, 3) := by decide +kernel
theorem dX11_holdering_136 : decode cX11_holdering 136 = .ok (.aload_n 0, 1) := by decide +kernel
theorem dX11_holdering_137 : decode cX11_holdering 137 = .ok (.getfield 69, 3) := by decide +kernel
theorem dX11_holdering_140 : decode cX11_holdering 140 = .ok (.aload_n 0, 1) := by decide +kernel
theorem dX11_holdering_141 : decode cX11_holdering 141 = .ok (.getfield 118, 3) := by decide +kernel
theorem dX11_holdering_144 : decode cX11_holdering 144 = .ok (.dup2, 1) := by decide +kernel
theorem dX11_holdering_145 : decode cX11_holdering 145 = .ok (.iaload, 1) := by decide +kernel
theorem dX11_holdering_146 : decode cX11_holdering 146 = .ok (.iconst 1, 1) := by decide +kernel
theorem dX11_holdering_147 : decode cX11_holdering 147 = .ok (.iadd, 1) := by decide +kernel
theorem dX11_holdering_148 : decode cX11_holdering 148 = .ok (.iastore, 1) := by decide +kernel
theorem dX11_holdering_149 : decode cX11_holdering 149 = .ok (.return_, 1) := by decide +kernel
def fX11_holdering_105 : Nat → Int32 → Int32 → zS → Option zS
  | 0, _, _, _ => none
  | f + 1, x1, x2, σ => if 6 ≤ x2 then if (iG σ 56 8) = 0 then aI σ 63 2 (iG σ 56 35) fun v23 => wI σ 63 2 (iG σ 56 35) (v23 + 1) fun σ24 => some σ24 else some σ else wI σ 67 72 ((6 * x1) + x2) 0 fun σ25 => fX11_holdering_105 f x1 (x2 + 1) σ25
theorem kX11_holdering_105 {sc : Nat × (Nat → Int32)} : ∀ (fuel : Nat) (x1 : Int32) (x2 : Int32) (σ : zS) (w : zS) (h : fX11_holdering_105 fuel x1 x2 σ = some w), zR (zY0 sc) 5 0 0 mX11_holdering 105 [(0, .ref 56), (1, .int x1), (2, .int x2)] [] (zE σ) (none, zE w) := by
  intro fuel
  induction fuel with
  | zero => intro x1 x2 σ w h; exact nomatch h
  | succ f ih =>
    intro x1 x2 σ w h
    rw [fX11_holdering_105] at h
    refine kR.iload_n dX11_holdering_105 2 rfl ?_
    refine zR.bipush (v := 6) dX11_holdering_106 (by decide) ?_
    refine kR.icmp_ge (tgt := 129) dX11_holdering_108 (by decide) h (fun h => ?_) (fun h => ?_)
    · refine kR.aload_n dX11_holdering_129 0 rfl ?_
      refine kR.getI dX11_holdering_130 flX11_36 zcf11 zp56 (Or.inl rfl) ?_
      refine kR.if_ne (tgt := 149) dX11_holdering_133 (by decide) h (fun h => ?_) (fun h => ?_)
      · exact kR.vret dX11_holdering_149 h
      · refine kR.aload_n dX11_holdering_136 0 rfl ?_
        refine kR.getR (v := 63) dX11_holdering_137 flX11_69 zcf11 zp56 (Or.inr ⟨_, rfl⟩) rfl ?_
        refine kR.aload_n dX11_holdering_140 0 rfl ?_
        refine kR.getI dX11_holdering_141 flX11_118 zcf11 zp56 (Or.inl rfl) ?_
        refine zR.dup2 dX11_holdering_144 rfl rfl ?_
        refine kR.iald dX11_holdering_145 zp63 rfl h (fun v23 h => ?_)
        refine zR.iconst (v := 1) dX11_holdering_146 (by decide) ?_
        refine zR.iadd dX11_holdering_147 ?_
        refine kR.iast dX11_holdering_148 zp63 rfl h (fun σ24 h => ?_)
        exact kR.vret dX11_holdering_149 h
    · refine kR.aload_n dX11_holdering_111 0 rfl ?_
      refine kR.getR (v := 67) dX11_holdering_112 flX11_81 zcf11 zp56 (Or.inr ⟨_, rfl⟩) rfl ?_
      refine zR.bipush (v := 6) dX11_holdering_115 (by decide) ?_
      refine kR.iload_n dX11_holdering_117 1 rfl ?_
      refine zR.imul dX11_holdering_118 ?_
      refine kR.iload_n dX11_holdering_119 2 rfl ?_
      refine zR.iadd dX11_holdering_120 ?_
      refine zR.iconst (v := 0) dX11_holdering_121 (by decide) ?_
      refine kR.iast dX11_holdering_122 zp67 rfl h (fun σ25 h => ?_)
      refine zR.iinc 2 (v := x2 + 1) (ls' := [(2, .int (x2 + 1)), (0, .ref 56), (1, .int x1)]) dX11_holdering_123 rfl rfl (by decide) rfl ?_
      refine zR.goto (tgt := 105) dX11_holdering_126 (by decide) ?_
      refine zR.sub [1, 2, 0] rfl ?_
      exact ih _ _ _ _ h
def fX11_holdering_20 (s0 : Int32) (σ : zS) : Option zS := bnc (fX11_counts s0 σ) fun v4 σ2 => if v4 = 0 then some σ2 else aI σ2 63 2 (iG σ2 56 35) fun v5 => bnc (fX11_fresh σ2) fun v8 σ6 => wL σ6 77 12 ((6 * (iG σ2 56 35)) + v5) v8 fun σ9 => bnr (fX11_must_ 108243466679400 σ9) fun σ10 => bnc (fX11_number 1 60 σ10) fun v14 σ12 => wI σ12 64 12 ((6 * (iG σ2 56 35)) + v5) v14 fun σ15 => bnr (fX11_must_ 119165837338739 σ15) fun σ16 => bnc (fX11_number 0 50 σ16) fun v20 σ18 => wI σ18 65 12 ((6 * (iG σ2 56 35)) + v5) v20 fun σ21 => wI σ21 66 12 ((6 * (iG σ2 56 35)) + v5) 60 fun σ22 => fX11_holdering_105 zF ((6 * (iG σ2 56 35)) + v5) 0 σ22
theorem kX11_holdering_20 {sc : Nat × (Nat → Int32)} (s0 : Int32) (σ : zS) (w : zS) (h : fX11_holdering_20 s0 σ = some w) : zR (zY0 sc) 5 0 0 mX11_holdering 20 [(0, .ref 56)] [.int s0, .ref 56] (zE σ) (none, zE w) := by
  unfold fX11_holdering_20 at h
  obtain ⟨v4, σ2, e3, h⟩ := bnc_some h
  refine kR.cVi [.int s0] dX11_holdering_20 rfl (by decide) mwX11_383 zp56 (by decide) rfl rfl (Nat.le_of_ble_eq_true rfl) (lX11_counts s0 σ _ e3) ?_
  refine kR.if_ne (tgt := 27) dX11_holdering_23 (by decide) h (fun h => ?_) (fun h => ?_)
  · refine zR.bipush (v := 6) dX11_holdering_27 (by decide) ?_
    refine kR.aload_n dX11_holdering_29 0 rfl ?_
    refine kR.getI dX11_holdering_30 flX11_118 zcf11 zp56 (Or.inl rfl) ?_
    refine zR.imul dX11_holdering_33 ?_
    refine kR.aload_n dX11_holdering_34 0 rfl ?_
    refine kR.getR (v := 63) dX11_holdering_35 flX11_69 zcf11 zp56 (Or.inr ⟨_, rfl⟩) rfl ?_
    refine kR.aload_n dX11_holdering_38 0 rfl ?_
    refine kR.getI dX11_holdering_39 flX11_118 zcf11 zp56 (Or.inl rfl) ?_
    refine kR.iald dX11_holdering_42 zp63 rfl h (fun v5 h => ?_)
    refine zR.iadd dX11_holdering_43 ?_
    refine zR.istore_n (i := 1) (ls' := [(1, .int ((6 * (iG σ2 56 35)) + v5)), (0, .ref 56)]) dX11_holdering_44 rfl (by decide) rfl ?_
    refine kR.aload_n dX11_holdering_45 1 rfl ?_
    refine kR.getR (v := 77) dX11_holdering_46 flX11_112 zcf11 zp56 (Or.inr ⟨_, rfl⟩) rfl ?_
    refine kR.iload_n dX11_holdering_49 0 rfl ?_
    refine kR.aload_n dX11_holdering_50 1 rfl ?_
    obtain ⟨v8, σ6, e7, h⟩ := bnc_some h
    refine kR.cVl [] dX11_holdering_51 rfl (by decide) mwX11_387 zp56 (by decide) rfl rfl (Nat.le_of_ble_eq_true rfl) (lX11_fresh σ2 _ e7) ?_
    refine kR.last dX11_holdering_54 zp77 rfl h (fun σ9 h => ?_)
    refine kR.aload_n dX11_holdering_55 1 rfl ?_
    refine zR.ldc2 (v := 108243466679400) dX11_holdering_56 clX11_290 ?_
    obtain ⟨σ10, e11, h⟩ := bnr_some h
    refine kR.cVv [.long 108243466679400] dX11_holdering_59 rfl (by decide) mwX11_391 zp56 (by decide) rfl rfl (Nat.le_of_ble_eq_true rfl) (lX11_must_ 108243466679400 σ9 _ e11) ?_
    refine kR.aload_n dX11_holdering_62 1 rfl ?_
    refine kR.getR (v := 64) dX11_holdering_63 flX11_72 zcf11 zp56 (Or.inr ⟨_, rfl⟩) rfl ?_
    refine kR.iload_n dX11_holdering_66 0 rfl ?_
    refine kR.aload_n dX11_holdering_67 1 rfl ?_
    refine zR.iconst (v := 1) dX11_holdering_68 (by decide) ?_
    refine zR.bipush (v := 60) dX11_holdering_69 (by decide) ?_
    obtain ⟨v14, σ12, e13, h⟩ := bnc_some h
    refine kR.cVi [.int 1, .int 60] dX11_holdering_71 rfl (by decide) mwX11_395 zp56 (by decide) rfl rfl (Nat.le_of_ble_eq_true rfl) (lX11_number 1 60 σ10 _ e13) ?_
    refine kR.iast dX11_holdering_74 zp64 rfl h (fun σ15 h => ?_)
    refine kR.aload_n dX11_holdering_75 1 rfl ?_
    refine zR.ldc2 (v := 119165837338739) dX11_holdering_76 clX11_292 ?_
    obtain ⟨σ16, e17, h⟩ := bnr_some h
    refine kR.cVv [.long 119165837338739] dX11_holdering_79 rfl (by decide) mwX11_391 zp56 (by decide) rfl rfl (Nat.le_of_ble_eq_true rfl) (lX11_must_ 119165837338739 σ15 _ e17) ?_
    refine kR.aload_n dX11_holdering_82 1 rfl ?_
    refine kR.getR (v := 65) dX11_holdering_83 flX11_75 zcf11 zp56 (Or.inr ⟨_, rfl⟩) rfl ?_
    refine kR.iload_n dX11_holdering_86 0 rfl ?_
    refine kR.aload_n dX11_holdering_87 1 rfl ?_
    refine zR.iconst (v := 0) dX11_holdering_88 (by decide) ?_
    refine zR.bipush (v := 50) dX11_holdering_89 (by decide) ?_
    obtain ⟨v20, σ18, e19, h⟩ := bnc_some h
    refine kR.cVi [.int 0, .int 50] dX11_holdering_91 rfl (by decide) mwX11_395 zp56 (by decide) rfl rfl (Nat.le_of_ble_eq_true rfl) (lX11_number 0 50 σ16 _ e19) ?_
    refine kR.iast dX11_holdering_94 zp65 rfl h (fun σ21 h => ?_)
    refine kR.aload_n dX11_holdering_95 1 rfl ?_
    refine kR.getR (v := 66) dX11_holdering_96 flX11_78 zcf11 zp56 (Or.inr ⟨_, rfl⟩) rfl ?_
    refine kR.iload_n dX11_holdering_99 0 rfl ?_
    refine zR.bipush (v := 60) dX11_holdering_100 (by decide) ?_
    refine kR.iast dX11_holdering_102 zp66 rfl h (fun σ22 h => ?_)
    refine zR.iconst (v := 0) dX11_holdering_103 (by decide) ?_
    refine zR.istore_n (i := 2) (ls' := [(2, .int 0), (1, .int ((6 * (iG σ2 56 35)) + v5)), (0, .ref 56)]) dX11_holdering_104 rfl (by decide) rfl ?_
    refine zR.sub [2, 1, 0] rfl ?_
    exact kX11_holdering_105 zF _ _ _ _ h
  · exact kR.vret dX11_holdering_26 h
def fX11_holdering (σ : zS) : Option zS := aI σ 63 2 (iG σ 56 35) fun v1 => if v1 = 6 then fX11_holdering_20 1 σ else fX11_holdering_20 0 σ
theorem eX11_holdering {sc : Nat × (Nat → Int32)} (σ : zS) (w : zS) (h : fX11_holdering σ = some w) : zR (zY0 sc) 5 0 0 mX11_holdering 0 [(0, .ref 56)] [] (zE σ) (none, zE w) := by
  unfold fX11_holdering at h
  refine kR.aload_n dX11_holdering_0 0 rfl ?_
  refine kR.aload_n dX11_holdering_1 0 rfl ?_
  refine kR.getR (v := 63) dX11_holdering_2 flX11_69 zcf11 zp56 (Or.inr ⟨_, rfl⟩) rfl ?_
  refine kR.aload_n dX11_holdering_5 0 rfl ?_
  refine kR.getI dX11_holdering_6 flX11_118 zcf11 zp56 (Or.inl rfl) ?_
  refine kR.iald dX11_holdering_9 zp63 rfl h (fun v1 h => ?_)
  refine zR.bipush (v := 6) dX11_holdering_10 (by decide) ?_
  refine kR.icmp_ne (tgt := 19) dX11_holdering_12 (by decide) h (fun h => ?_) (fun h => ?_)
  · refine zR.iconst (v := 0) dX11_holdering_19 (by decide) ?_
    exact kX11_holdering_20 _ _ _ h
  · refine zR.iconst (v := 1) dX11_holdering_15 (by decide) ?_
    refine zR.goto (tgt := 20) dX11_holdering_16 (by decide) ?_
    exact kX11_holdering_20 _ _ _ h
theorem lX11_holdering {sc : Nat × (Nat → Int32)} (σ : zS) (w : zS) (h : fX11_holdering σ = some w) : zC (zY0 sc) 5 0 0 mX11_holdering [.ref 56] (zE σ) (none, zE w) := zC.of (by decide +kernel) (Nat.le_of_ble_eq_true rfl) rfl (eX11_holdering σ w h)
theorem dX11_thinking_0 : decode cX11_thinking 0 = .ok (.aload_n 0, 1) := by decide +kernel
theorem dX11_thinking_1 : decode cX11_thinking 1 = .ok (.iconst 0, 1) := by decide +kernel
theorem dX11_thinking_2 : decode cX11_thinking 2 = .ok (.invokevirtual 383, 3) := by decide +kernel
theorem dX11_thinking_5 : decode cX11_thinking 5 = .ok (.ifCond .ne 4, 3) := by decide +kernel
theorem dX11_thinking_8 : decode cX11_thinking 8 = .ok (.return_, 1) := by decide +kernel
theorem dX11_thinking_9 : decode cX11_thinking 9 = .ok (.aload_n 0, 1) := by decide +kernel
theorem dX11_thinking_10 : decode cX11_thinking 10 = .ok (.iconst 1, 1) := by decide +kernel
theorem dX11_thinking_11 : decode cX11_thinking 11 = .ok (.invokevirtual 398, 3) := by decide +kernel
theorem dX11_thinking_14 : decode cX11_thinking 14 = .ok (.istore_n 1, 1) := by decide +kernel
theorem dX11_thinking_15 : decode cX11_thinking 15 = .ok (.aload_n 0, 1) := by decide +kernel
theorem dX11_thinking_16 : decode cX11_thinking 16 = .ok (.iconst 0, 1) := by decide +kernel
theorem dX11_thinking_17 : decode cX11_thinking 17 = .ok (.invokevirtual 398, 3) := by decide +kernel
theorem dX11_thinking_20 : decode cX11_thinking 20 = .ok (.istore_n 2, 1) := by decide +kernel
theorem dX11_thinking_21 : decode cX11_thinking 21 = .ok (.aload_n 0, 1) := by decide +kernel
theorem dX11_thinking_22 : decode cX11_thinking 22 = .ok (.iconst 1, 1) := by decide +kernel
theorem dX11_thinking_23 : decode cX11_thinking 23 = .ok (.bipush 60, 2) := by decide +kernel
theorem dX11_thinking_25 : decode cX11_thinking 25 = .ok (.invokevirtual 395, 3) := by decide +kernel
theorem dX11_thinking_28 : decode cX11_thinking 28 = .ok (.istore_n 3, 1) := by decide +kernel
theorem dX11_thinking_29 : decode cX11_thinking 29 = .ok (.aload_n 0, 1) := by decide +kernel
theorem dX11_thinking_30 : decode cX11_thinking 30 = .ok (.getfield 36, 3) := by decide +kernel
theorem dX11_thinking_33 : decode cX11_thinking 33 = .ok (.ifCond .ne 23, 3) := by decide +kernel
theorem dX11_thinking_36 : decode cX11_thinking 36 = .ok (.aload_n 0, 1) := by decide +kernel
theorem dX11_thinking_37 : decode cX11_thinking 37 = .ok (.getfield 81, 3) := by decide +kernel
theorem dX11_thinking_40 : decode cX11_thinking 40 = .ok (.bipush 6, 2) := by decide +kernel
theorem dX11_thinking_42 : decode cX11_thinking 42 = .ok (.bipush 6, 2) := by decide +kernel
theorem dX11_thinking_44 : decode cX11_thinking 44 = .ok (.aload_n 0, 1) := by decide +kernel
theorem dX11_thinking_45 : decode cX11_thinking 45 = .ok (.getfield 118, 3) := by decide +kernel
theorem dX11_thinking_48 : decode cX11_thinking 48 = .ok (.imul, 1) := by decide +kernel
theorem dX11_thinking_49 : decode cX11_thinking 49 = .ok (.iload_n 1, 1) := by decide +kernel
theorem dX11_thinking_50 : decode cX11_thinking 50 = .ok (.iadd, 1) := by decide +kernel
theorem dX11_thinking_51 : decode cX11_thinking 51 = .ok (.imul, 1) := by decide +kernel
theorem dX11_thinking_52 : decode cX11_thinking 52 = .ok (.iload_n 2, 1) := by decide +kernel
theorem dX11_thinking_53 : decode cX11_thinking 53 = .ok (.iadd, 1) := by decide +kernel
theorem dX11_thinking_54 : decode cX11_thinking 54 = .ok (.iload_n 3, 1) := by decide +kernel
theorem dX11_thinking_55 : decode cX11_thinking 55 = .ok (.iastore, 1) := by decide +kernel
theorem dX11_thinking_56 : decode cX11_thinking 56 = .ok (.return_, 1) := by decide +kernel
def fX11_thinking (σ : zS) : Option zS := bnc (fX11_counts 0 σ) fun v3 σ1 => if v3 = 0 then some σ1 else bnc (fX11_asked 1 σ1) fun v6 σ4 => bnc (fX11_asked 0 σ4) fun v9 σ7 => bnc (fX11_number 1 60 σ7) fun v12 σ10 => if (iG σ10 56 8) = 0 then wI σ10 67 72 ((6 * ((6 * (iG σ10 56 35)) + v6)) + v9) v12 fun σ13 => some σ13 else some σ10
theorem eX11_thinking {sc : Nat × (Nat → Int32)} (σ : zS) (w : zS) (h : fX11_thinking σ = some w) : zR (zY0 sc) 5 0 0 mX11_thinking 0 [(0, .ref 56)] [] (zE σ) (none, zE w) := by
  unfold fX11_thinking at h
  refine kR.aload_n dX11_thinking_0 0 rfl ?_
  refine zR.iconst (v := 0) dX11_thinking_1 (by decide) ?_
  obtain ⟨v3, σ1, e2, h⟩ := bnc_some h
  refine kR.cVi [.int 0] dX11_thinking_2 rfl (by decide) mwX11_383 zp56 (by decide) rfl rfl (Nat.le_of_ble_eq_true rfl) (lX11_counts 0 σ _ e2) ?_
  refine kR.if_ne (tgt := 9) dX11_thinking_5 (by decide) h (fun h => ?_) (fun h => ?_)
  · refine kR.aload_n dX11_thinking_9 0 rfl ?_
    refine zR.iconst (v := 1) dX11_thinking_10 (by decide) ?_
    obtain ⟨v6, σ4, e5, h⟩ := bnc_some h
    refine kR.cVi [.int 1] dX11_thinking_11 rfl (by decide) mwX11_398 zp56 (by decide) rfl rfl (Nat.le_of_ble_eq_true rfl) (lX11_asked 1 σ1 _ e5) ?_
    refine zR.istore_n (i := 1) (ls' := [(1, .int v6), (0, .ref 56)]) dX11_thinking_14 rfl (by decide) rfl ?_
    refine kR.aload_n dX11_thinking_15 1 rfl ?_
    refine zR.iconst (v := 0) dX11_thinking_16 (by decide) ?_
    obtain ⟨v9, σ7, e8, h⟩ := bnc_some h
    refine kR.cVi [.int 0] dX11_thinking_17 rfl (by decide) mwX11_398 zp56 (by decide) rfl rfl (Nat.le_of_ble_eq_true rfl) (lX11_asked 0 σ4 _ e8) ?_
    refine zR.istore_n (i := 2) (ls' := [(2, .int v9), (1, .int v6), (0, .ref 56)]) dX11_thinking_20 rfl (by decide) rfl ?_
    refine kR.aload_n dX11_thinking_21 2 rfl ?_
    refine zR.iconst (v := 1) dX11_thinking_22 (by decide) ?_
    refine zR.bipush (v := 60) dX11_thinking_23 (by decide) ?_
    obtain ⟨v12, σ10, e11, h⟩ := bnc_some h
    refine kR.cVi [.int 1, .int 60] dX11_thinking_25 rfl (by decide) mwX11_395 zp56 (by decide) rfl rfl (Nat.le_of_ble_eq_true rfl) (lX11_number 1 60 σ7 _ e11) ?_
    refine zR.istore_n (i := 3) (ls' := [(3, .int v12), (2, .int v9), (1, .int v6), (0, .ref 56)]) dX11_thinking_28 rfl (by decide) rfl ?_
    refine kR.aload_n dX11_thinking_29 3 rfl ?_
    refine kR.getI dX11_thinking_30 flX11_36 zcf11 zp56 (Or.inl rfl) ?_
    refine kR.if_ne (tgt := 56) dX11_thinking_33 (by decide) h (fun h => ?_) (fun h => ?_)
    · exact kR.vret dX11_thinking_56 h
    · refine kR.aload_n dX11_thinking_36 3 rfl ?_
      refine kR.getR (v := 67) dX11_thinking_37 flX11_81 zcf11 zp56 (Or.inr ⟨_, rfl⟩) rfl ?_
      refine zR.bipush (v := 6) dX11_thinking_40 (by decide) ?_
      refine zR.bipush (v := 6) dX11_thinking_42 (by decide) ?_
      refine kR.aload_n dX11_thinking_44 3 rfl ?_
      refine kR.getI dX11_thinking_45 flX11_118 zcf11 zp56 (Or.inl rfl) ?_
      refine zR.imul dX11_thinking_48 ?_
      refine kR.iload_n dX11_thinking_49 2 rfl ?_
      refine zR.iadd dX11_thinking_50 ?_
      refine zR.imul dX11_thinking_51 ?_
      refine kR.iload_n dX11_thinking_52 1 rfl ?_
      refine zR.iadd dX11_thinking_53 ?_
      refine kR.iload_n dX11_thinking_54 0 rfl ?_
      refine kR.iast dX11_thinking_55 zp67 rfl h (fun σ13 h => ?_)
      exact kR.vret dX11_thinking_56 h
  · exact kR.vret dX11_thinking_8 h
theorem lX11_thinking {sc : Nat × (Nat → Int32)} (σ : zS) (w : zS) (h : fX11_thinking σ = some w) : zC (zY0 sc) 5 0 0 mX11_thinking [.ref 56] (zE σ) (none, zE w) := zC.of (by decide +kernel) (Nat.le_of_ble_eq_true rfl) rfl (eX11_thinking σ w h)
theorem dX11_giving_0 : decode cX11_giving 0 = .ok (.aload_n 0, 1) := by decide +kernel
theorem dX11_giving_1 : decode cX11_giving 1 = .ok (.iconst 0, 1) := by decide +kernel
theorem dX11_giving_2 : decode cX11_giving 2 = .ok (.invokevirtual 383, 3) := by decide +kernel
theorem dX11_giving_5 : decode cX11_giving 5 = .ok (.ifCond .ne 4, 3) := by decide +kernel
theorem dX11_giving_8 : decode cX11_giving 8 = .ok (.return_, 1) := by decide +kernel
theorem dX11_giving_9 : decode cX11_giving 9 = .ok (.aload_n 0, 1) := by decide +kernel
theorem dX11_giving_10 : decode cX11_giving 10 = .ok (.iconst 1, 1) := by decide +kernel
theorem dX11_giving_11 : decode cX11_giving 11 = .ok (.invokevirtual 398, 3) := by decide +kernel
theorem dX11_giving_14 : decode cX11_giving 14 = .ok (.istore_n 1, 1) := by decide +kernel
theorem dX11_giving_15 : decode cX11_giving 15 = .ok (.aload_n 0, 1) := by decide +kernel
theorem dX11_giving_16 : decode cX11_giving 16 = .ok (.iconst 0, 1) := by decide +kernel
theorem dX11_giving_17 : decode cX11_giving 17 = .ok (.bipush 60, 2) := by decide +kernel
theorem dX11_giving_19 : decode cX11_giving 19 = .ok (.invokevirtual 395, 3) := by decide +kernel
theorem dX11_giving_22 : decode cX11_giving 22 = .ok (.istore_n 2, 1) := by decide +kernel
theorem dX11_giving_23 : decode cX11_giving 23 = .ok (.aload_n 0, 1) := by decide +kernel
theorem dX11_giving_24 : decode cX11_giving 24 = .ok (.getfield 36, 3) := by decide +kernel
theorem dX11_giving_27 : decode cX11_giving 27 = .ok (.ifCond .ne 18, 3) := by decide +kernel
theorem dX11_giving_30 : decode cX11_giving 30 = .ok (.aload_n 0, 1) := by decide +kernel
theorem dX11_giving_31 : decode cX11_giving 31 = .ok (.getfield 78, 3) := by decide +kernel
theorem dX11_giving_34 : decode cX11_giving 34 = .ok (.bipush 6, 2) := by decide +kernel
theorem dX11_giving_36 : decode cX11_giving 36 = .ok (.aload_n 0, 1) := by decide +kernel
theorem dX11_giving_37 : decode cX11_giving 37 = .ok (.getfield 118, 3) := by decide +kernel
theorem dX11_giving_40 : decode cX11_giving 40 = .ok (.imul, 1) := by decide +kernel
theorem dX11_giving_41 : decode cX11_giving 41 = .ok (.iload_n 1, 1) := by decide +kernel
theorem dX11_giving_42 : decode cX11_giving 42 = .ok (.iadd, 1) := by decide +kernel
theorem dX11_giving_43 : decode cX11_giving 43 = .ok (.iload_n 2, 1) := by decide +kernel
theorem dX11_giving_44 : decode cX11_giving 44 = .ok (.iastore, 1) := by decide +kernel
theorem dX11_giving_45 : decode cX11_giving 45 = .ok (.return_, 1) := by decide +kernel
def fX11_giving (σ : zS) : Option zS := bnc (fX11_counts 0 σ) fun v3 σ1 => if v3 = 0 then some σ1 else bnc (fX11_asked 1 σ1) fun v6 σ4 => bnc (fX11_number 0 60 σ4) fun v9 σ7 => if (iG σ7 56 8) = 0 then wI σ7 66 12 ((6 * (iG σ7 56 35)) + v6) v9 fun σ10 => some σ10 else some σ7
theorem eX11_giving {sc : Nat × (Nat → Int32)} (σ : zS) (w : zS) (h : fX11_giving σ = some w) : zR (zY0 sc) 5 0 0 mX11_giving 0 [(0, .ref 56)] [] (zE σ) (none, zE w) := by
  unfold fX11_giving at h
  refine kR.aload_n dX11_giving_0 0 rfl ?_
  refine zR.iconst (v := 0) dX11_giving_1 (by decide) ?_
  obtain ⟨v3, σ1, e2, h⟩ := bnc_some h
  refine kR.cVi [.int 0] dX11_giving_2 rfl (by decide) mwX11_383 zp56 (by decide) rfl rfl (Nat.le_of_ble_eq_true rfl) (lX11_counts 0 σ _ e2) ?_
  refine kR.if_ne (tgt := 9) dX11_giving_5 (by decide) h (fun h => ?_) (fun h => ?_)
  · refine kR.aload_n dX11_giving_9 0 rfl ?_
    refine zR.iconst (v := 1) dX11_giving_10 (by decide) ?_
    obtain ⟨v6, σ4, e5, h⟩ := bnc_some h
    refine kR.cVi [.int 1] dX11_giving_11 rfl (by decide) mwX11_398 zp56 (by decide) rfl rfl (Nat.le_of_ble_eq_true rfl) (lX11_asked 1 σ1 _ e5) ?_
    refine zR.istore_n (i := 1) (ls' := [(1, .int v6), (0, .ref 56)]) dX11_giving_14 rfl (by decide) rfl ?_
    refine kR.aload_n dX11_giving_15 1 rfl ?_
    refine zR.iconst (v := 0) dX11_giving_16 (by decide) ?_
    refine zR.bipush (v := 60) dX11_giving_17 (by decide) ?_
    obtain ⟨v9, σ7, e8, h⟩ := bnc_some h
    refine kR.cVi [.int 0, .int 60] dX11_giving_19 rfl (by decide) mwX11_395 zp56 (by decide) rfl rfl (Nat.le_of_ble_eq_true rfl) (lX11_number 0 60 σ4 _ e8) ?_
    refine zR.istore_n (i := 2) (ls' := [(2, .int v9), (1, .int v6), (0, .ref 56)]) dX11_giving_22 rfl (by decide) rfl ?_
    refine kR.aload_n dX11_giving_23 2 rfl ?_
    refine kR.getI dX11_giving_24 flX11_36 zcf11 zp56 (Or.inl rfl) ?_
    refine kR.if_ne (tgt := 45) dX11_giving_27 (by decide) h (fun h => ?_) (fun h => ?_)
    · exact kR.vret dX11_giving_45 h
    · refine kR.aload_n dX11_giving_30 2 rfl ?_
      refine kR.getR (v := 66) dX11_giving_31 flX11_78 zcf11 zp56 (Or.inr ⟨_, rfl⟩) rfl ?_
      refine zR.bipush (v := 6) dX11_giving_34 (by decide) ?_
      refine kR.aload_n dX11_giving_36 2 rfl ?_
      refine kR.getI dX11_giving_37 flX11_118 zcf11 zp56 (Or.inl rfl) ?_
      refine zR.imul dX11_giving_40 ?_
      refine kR.iload_n dX11_giving_41 1 rfl ?_
      refine zR.iadd dX11_giving_42 ?_
      refine kR.iload_n dX11_giving_43 0 rfl ?_
      refine kR.iast dX11_giving_44 zp66 rfl h (fun σ10 h => ?_)
      exact kR.vret dX11_giving_45 h
  · exact kR.vret dX11_giving_8 h
theorem lX11_giving {sc : Nat × (Nat → Int32)} (σ : zS) (w : zS) (h : fX11_giving σ = some w) : zC (zY0 sc) 5 0 0 mX11_giving [.ref 56] (zE σ) (none, zE w) := zC.of (by decide +kernel) (Nat.le_of_ble_eq_true rfl) rfl (eX11_giving σ w h)
theorem dX11_worthing_0 : decode cX11_worthing 0 = .ok (.aload_n 0, 1) := by decide +kernel
theorem dX11_worthing_1 : decode cX11_worthing 1 = .ok (.aload_n 0, 1) := by decide +kernel
theorem dX11_worthing_2 : decode cX11_worthing 2 = .ok (.getfield 84, 3) := by decide +kernel
theorem dX11_worthing_5 : decode cX11_worthing 5 = .ok (.aload_n 0, 1) := by decide +kernel
theorem dX11_worthing_6 : decode cX11_worthing 6 = .ok (.getfield 118, 3) := by decide +kernel
theorem dX11_worthing_9 : decode cX11_worthing 9 = .ok (.iaload, 1) := by decide +kernel
theorem dX11_worthing_10 : decode cX11_worthing 10 = .ok (.iconst (-1), 1) := by decide +kernel
theorem dX11_worthing_11 : decode cX11_worthing 11 = .ok (.if_icmp .eq 7, 3) := by decide +kernel
theorem dX11_worthing_14 : decode cX11_worthing 14 = .ok (.iconst 1, 1) := by decide +kernel
theorem dX11_worthing_15 : decode cX11_worthing 15 = .ok (.goto 4, 3) := by decide +kernel
theorem dX11_worthing_18 : decode cX11_worthing 18 = .ok (.iconst 0, 1) := by decide +kernel
theorem dX11_worthing_19 : decode cX11_worthing 19 = .ok (.invokevirtual 383, 3) := by decide +kernel
theorem dX11_worthing_22 : decode cX11_worthing 22 = .ok (.ifCond .ne 4, 3) := by decide +kernel
theorem dX11_worthing_25 : decode cX11_worthing 25 = .ok (.return_, 1) := by decide +kernel
theorem dX11_worthing_26 : decode cX11_worthing 26 = .ok (.aload_n 0, 1) := by decide +kernel
theorem dX11_worthing_27 : decode cX11_worthing 27 = .ok (.getfield 84, 3) := by decide +kernel
theorem dX11_worthing_30 : decode cX11_worthing 30 = .ok (.aload_n 0, 1) := by decide +kernel
theorem dX11_worthing_31 : decode cX11_worthing 31 = .ok (.getfield 118, 3) := by decide +kernel
theorem dX11_worthing_34 : decode cX11_worthing 34 = .ok (.aload_n 0, 1) := by decide +kernel
theorem dX11_worthing_35 : decode cX11_worthing 35 = .ok (.getfield 115, 3) := by decide +kernel
theorem dX11_worthing_38 : decode cX11_worthing 38 = .ok (.iastore, 1) := by decide +kernel
theorem dX11_worthing_39 : decode cX11_worthing 39 = .ok (.aload_n 0, 1) := by decide +kernel
theorem dX11_worthing_40 : decode cX11_worthing 40 = .ok (.iconst 0, 1) := by decide +kernel
theorem dX11_worthing_41 : decode cX11_worthing 41 = .ok (.invokevirtual 401, 3) := by decide +kernel
theorem dX11_worthing_44 : decode cX11_worthing 44 = .ok (.aload_n 0, 1) := by decide +kernel
theorem dX11_worthing_45 : decode cX11_worthing 45 = .ok (.getfield 87, 3) := by decide +kernel
theorem dX11_worthing_48 : decode cX11_worthing 48 = .ok (.aload_n 0, 1) := by decide +kernel
theorem dX11_worthing_49 : decode cX11_worthing 49 = .ok (.getfield 118, 3) := by decide +kernel
theorem dX11_worthing_52 : decode cX11_worthing 52 = .ok (.aload_n 0, 1) := by decide +kernel
theorem dX11_worthing_53 : decode cX11_worthing 53 = .ok (.getfield 115, 3) := by decide +kernel
theorem dX11_worthing_56 : decode cX11_worthing 56 = .ok (.iastore, 1) := by decide +kernel
theorem dX11_worthing_57 : decode cX11_worthing 57 = .ok (.return_, 1) := by decide +kernel
def fX11_worthing_19 (s0 : Int32) (σ : zS) : Option zS := bnc (fX11_counts s0 σ) fun v4 σ2 => if v4 = 0 then some σ2 else wI σ2 68 2 (iG σ2 56 35) (iG σ2 56 34) fun σ5 => bnr (fX11_reads 0 σ5) fun σ6 => wI σ6 69 2 (iG σ6 56 35) (iG σ6 56 34) fun σ8 => some σ8
theorem kX11_worthing_19 {sc : Nat × (Nat → Int32)} (s0 : Int32) (σ : zS) (w : zS) (h : fX11_worthing_19 s0 σ = some w) : zR (zY0 sc) 6 0 0 mX11_worthing 19 [(0, .ref 56)] [.int s0, .ref 56] (zE σ) (none, zE w) := by
  unfold fX11_worthing_19 at h
  obtain ⟨v4, σ2, e3, h⟩ := bnc_some h
  refine kR.cVi [.int s0] dX11_worthing_19 rfl (by decide) mwX11_383 zp56 (by decide) rfl rfl (Nat.le_of_ble_eq_true rfl) (lX11_counts s0 σ _ e3) ?_
  refine kR.if_ne (tgt := 26) dX11_worthing_22 (by decide) h (fun h => ?_) (fun h => ?_)
  · refine kR.aload_n dX11_worthing_26 0 rfl ?_
    refine kR.getR (v := 68) dX11_worthing_27 flX11_84 zcf11 zp56 (Or.inr ⟨_, rfl⟩) rfl ?_
    refine kR.aload_n dX11_worthing_30 0 rfl ?_
    refine kR.getI dX11_worthing_31 flX11_118 zcf11 zp56 (Or.inl rfl) ?_
    refine kR.aload_n dX11_worthing_34 0 rfl ?_
    refine kR.getI dX11_worthing_35 flX11_115 zcf11 zp56 (Or.inl rfl) ?_
    refine kR.iast dX11_worthing_38 zp68 rfl h (fun σ5 h => ?_)
    refine kR.aload_n dX11_worthing_39 0 rfl ?_
    refine zR.iconst (v := 0) dX11_worthing_40 (by decide) ?_
    obtain ⟨σ6, e7, h⟩ := bnr_some h
    refine kR.cVv [.int 0] dX11_worthing_41 rfl (by decide) mwX11_401 zp56 (by decide) rfl rfl (Nat.le_of_ble_eq_true rfl) (lX11_reads 0 σ5 _ e7) ?_
    refine kR.aload_n dX11_worthing_44 0 rfl ?_
    refine kR.getR (v := 69) dX11_worthing_45 flX11_87 zcf11 zp56 (Or.inr ⟨_, rfl⟩) rfl ?_
    refine kR.aload_n dX11_worthing_48 0 rfl ?_
    refine kR.getI dX11_worthing_49 flX11_118 zcf11 zp56 (Or.inl rfl) ?_
    refine kR.aload_n dX11_worthing_52 0 rfl ?_
    refine kR.getI dX11_worthing_53 flX11_115 zcf11 zp56 (Or.inl rfl) ?_
    refine kR.iast dX11_worthing_56 zp69 rfl h (fun σ8 h => ?_)
    exact kR.vret dX11_worthing_57 h
  · exact kR.vret dX11_worthing_25 h
def fX11_worthing (σ : zS) : Option zS := aI σ 68 2 (iG σ 56 35) fun v1 => if v1 = ((-1)) then fX11_worthing_19 0 σ else fX11_worthing_19 1 σ
theorem eX11_worthing {sc : Nat × (Nat → Int32)} (σ : zS) (w : zS) (h : fX11_worthing σ = some w) : zR (zY0 sc) 6 0 0 mX11_worthing 0 [(0, .ref 56)] [] (zE σ) (none, zE w) := by
  unfold fX11_worthing at h
  refine kR.aload_n dX11_worthing_0 0 rfl ?_
  refine kR.aload_n dX11_worthing_1 0 rfl ?_
  refine kR.getR (v := 68) dX11_worthing_2 flX11_84 zcf11 zp56 (Or.inr ⟨_, rfl⟩) rfl ?_
  refine kR.aload_n dX11_worthing_5 0 rfl ?_
  refine kR.getI dX11_worthing_6 flX11_118 zcf11 zp56 (Or.inl rfl) ?_
  refine kR.iald dX11_worthing_9 zp68 rfl h (fun v1 h => ?_)
  refine zR.iconst (v := (-1)) dX11_worthing_10 (by decide) ?_
  refine kR.icmp_eq (tgt := 18) dX11_worthing_11 (by decide) h (fun h => ?_) (fun h => ?_)
  · refine zR.iconst (v := 0) dX11_worthing_18 (by decide) ?_
    exact kX11_worthing_19 _ _ _ h
  · refine zR.iconst (v := 1) dX11_worthing_14 (by decide) ?_
    refine zR.goto (tgt := 19) dX11_worthing_15 (by decide) ?_
    exact kX11_worthing_19 _ _ _ h
theorem lX11_worthing {sc : Nat × (Nat → Int32)} (σ : zS) (w : zS) (h : fX11_worthing σ = some w) : zC (zY0 sc) 6 0 0 mX11_worthing [.ref 56] (zE σ) (none, zE w) := zC.of (by decide +kernel) (Nat.le_of_ble_eq_true rfl) rfl (eX11_worthing σ w h)
theorem dX11_tiring_0 : decode cX11_tiring 0 = .ok (.aload_n 0, 1) := by decide +kernel
theorem dX11_tiring_1 : decode cX11_tiring 1 = .ok (.aload_n 0, 1) := by decide +kernel
theorem dX11_tiring_2 : decode cX11_tiring 2 = .ok (.getfield 90, 3) := by decide +kernel
theorem dX11_tiring_5 : decode cX11_tiring 5 = .ok (.aload_n 0, 1) := by decide +kernel
theorem dX11_tiring_6 : decode cX11_tiring 6 = .ok (.getfield 118, 3) := by decide +kernel
theorem dX11_tiring_9 : decode cX11_tiring 9 = .ok (.iaload, 1) := by decide +kernel
theorem dX11_tiring_10 : decode cX11_tiring 10 = .ok (.iconst (-1), 1) := by decide +kernel
theorem dX11_tiring_11 : decode cX11_tiring 11 = .ok (.if_icmp .eq 7, 3) := by decide +kernel
theorem dX11_tiring_14 : decode cX11_tiring 14 = .ok (.iconst 1, 1) := by decide +kernel
theorem dX11_tiring_15 : decode cX11_tiring 15 = .ok (.goto 4, 3) := by decide +kernel
theorem dX11_tiring_18 : decode cX11_tiring 18 = .ok (.iconst 0, 1) := by decide +kernel
theorem dX11_tiring_19 : decode cX11_tiring 19 = .ok (.invokevirtual 383, 3) := by decide +kernel
theorem dX11_tiring_22 : decode cX11_tiring 22 = .ok (.ifCond .ne 4, 3) := by decide +kernel
theorem dX11_tiring_25 : decode cX11_tiring 25 = .ok (.return_, 1) := by decide +kernel
theorem dX11_tiring_26 : decode cX11_tiring 26 = .ok (.aload_n 0, 1) := by decide +kernel
theorem dX11_tiring_27 : decode cX11_tiring 27 = .ok (.getfield 90, 3) := by decide +kernel
theorem dX11_tiring_30 : decode cX11_tiring 30 = .ok (.aload_n 0, 1) := by decide +kernel
theorem dX11_tiring_31 : decode cX11_tiring 31 = .ok (.getfield 118, 3) := by decide +kernel
theorem dX11_tiring_34 : decode cX11_tiring 34 = .ok (.aload_n 0, 1) := by decide +kernel
theorem dX11_tiring_35 : decode cX11_tiring 35 = .ok (.getfield 115, 3) := by decide +kernel
theorem dX11_tiring_38 : decode cX11_tiring 38 = .ok (.iastore, 1) := by decide +kernel
theorem dX11_tiring_39 : decode cX11_tiring 39 = .ok (.aload_n 0, 1) := by decide +kernel
theorem dX11_tiring_40 : decode cX11_tiring 40 = .ok (.iconst 0, 1) := by decide +kernel
theorem dX11_tiring_41 : decode cX11_tiring 41 = .ok (.invokevirtual 401, 3) := by decide +kernel
theorem dX11_tiring_44 : decode cX11_tiring 44 = .ok (.aload_n 0, 1) := by decide +kernel
theorem dX11_tiring_45 : decode cX11_tiring 45 = .ok (.getfield 93, 3) := by decide +kernel
theorem dX11_tiring_48 : decode cX11_tiring 48 = .ok (.aload_n 0, 1) := by decide +kernel
theorem dX11_tiring_49 : decode cX11_tiring 49 = .ok (.getfield 118, 3) := by decide +kernel
theorem dX11_tiring_52 : decode cX11_tiring 52 = .ok (.aload_n 0, 1) := by decide +kernel
theorem dX11_tiring_53 : decode cX11_tiring 53 = .ok (.getfield 115, 3) := by decide +kernel
theorem dX11_tiring_56 : decode cX11_tiring 56 = .ok (.iastore, 1) := by decide +kernel
theorem dX11_tiring_57 : decode cX11_tiring 57 = .ok (.return_, 1) := by decide +kernel
def fX11_tiring_19 (s0 : Int32) (σ : zS) : Option zS := bnc (fX11_counts s0 σ) fun v4 σ2 => if v4 = 0 then some σ2 else wI σ2 70 2 (iG σ2 56 35) (iG σ2 56 34) fun σ5 => bnr (fX11_reads 0 σ5) fun σ6 => wI σ6 71 2 (iG σ6 56 35) (iG σ6 56 34) fun σ8 => some σ8
theorem kX11_tiring_19 {sc : Nat × (Nat → Int32)} (s0 : Int32) (σ : zS) (w : zS) (h : fX11_tiring_19 s0 σ = some w) : zR (zY0 sc) 6 0 0 mX11_tiring 19 [(0, .ref 56)] [.int s0, .ref 56] (zE σ) (none, zE w) := by
  unfold fX11_tiring_19 at h
  obtain ⟨v4, σ2, e3, h⟩ := bnc_some h
  refine kR.cVi [.int s0] dX11_tiring_19 rfl (by decide) mwX11_383 zp56 (by decide) rfl rfl (Nat.le_of_ble_eq_true rfl) (lX11_counts s0 σ _ e3) ?_
  refine kR.if_ne (tgt := 26) dX11_tiring_22 (by decide) h (fun h => ?_) (fun h => ?_)
  · refine kR.aload_n dX11_tiring_26 0 rfl ?_
    refine kR.getR (v := 70) dX11_tiring_27 flX11_90 zcf11 zp56 (Or.inr ⟨_, rfl⟩) rfl ?_
    refine kR.aload_n dX11_tiring_30 0 rfl ?_
    refine kR.getI dX11_tiring_31 flX11_118 zcf11 zp56 (Or.inl rfl) ?_
    refine kR.aload_n dX11_tiring_34 0 rfl ?_
    refine kR.getI dX11_tiring_35 flX11_115 zcf11 zp56 (Or.inl rfl) ?_
    refine kR.iast dX11_tiring_38 zp70 rfl h (fun σ5 h => ?_)
    refine kR.aload_n dX11_tiring_39 0 rfl ?_
    refine zR.iconst (v := 0) dX11_tiring_40 (by decide) ?_
    obtain ⟨σ6, e7, h⟩ := bnr_some h
    refine kR.cVv [.int 0] dX11_tiring_41 rfl (by decide) mwX11_401 zp56 (by decide) rfl rfl (Nat.le_of_ble_eq_true rfl) (lX11_reads 0 σ5 _ e7) ?_
    refine kR.aload_n dX11_tiring_44 0 rfl ?_
    refine kR.getR (v := 71) dX11_tiring_45 flX11_93 zcf11 zp56 (Or.inr ⟨_, rfl⟩) rfl ?_
    refine kR.aload_n dX11_tiring_48 0 rfl ?_
    refine kR.getI dX11_tiring_49 flX11_118 zcf11 zp56 (Or.inl rfl) ?_
    refine kR.aload_n dX11_tiring_52 0 rfl ?_
    refine kR.getI dX11_tiring_53 flX11_115 zcf11 zp56 (Or.inl rfl) ?_
    refine kR.iast dX11_tiring_56 zp71 rfl h (fun σ8 h => ?_)
    exact kR.vret dX11_tiring_57 h
  · exact kR.vret dX11_tiring_25 h
def fX11_tiring (σ : zS) : Option zS := aI σ 70 2 (iG σ 56 35) fun v1 => if v1 = ((-1)) then fX11_tiring_19 0 σ else fX11_tiring_19 1 σ
theorem eX11_tiring {sc : Nat × (Nat → Int32)} (σ : zS) (w : zS) (h : fX11_tiring σ = some w) : zR (zY0 sc) 6 0 0 mX11_tiring 0 [(0, .ref 56)] [] (zE σ) (none, zE w) := by
  unfold fX11_tiring at h
  refine kR.aload_n dX11_tiring_0 0 rfl ?_
  refine kR.aload_n dX11_tiring_1 0 rfl ?_
  refine kR.getR (v := 70) dX11_tiring_2 flX11_90 zcf11 zp56 (Or.inr ⟨_, rfl⟩) rfl ?_
  refine kR.aload_n dX11_tiring_5 0 rfl ?_
  refine kR.getI dX11_tiring_6 flX11_118 zcf11 zp56 (Or.inl rfl) ?_
  refine kR.iald dX11_tiring_9 zp70 rfl h (fun v1 h => ?_)
  refine zR.iconst (v := (-1)) dX11_tiring_10 (by decide) ?_
  refine kR.icmp_eq (tgt := 18) dX11_tiring_11 (by decide) h (fun h => ?_) (fun h => ?_)
  · refine zR.iconst (v := 0) dX11_tiring_18 (by decide) ?_
    exact kX11_tiring_19 _ _ _ h
  · refine zR.iconst (v := 1) dX11_tiring_14 (by decide) ?_
    refine zR.goto (tgt := 19) dX11_tiring_15 (by decide) ?_
    exact kX11_tiring_19 _ _ _ h
theorem lX11_tiring {sc : Nat × (Nat → Int32)} (σ : zS) (w : zS) (h : fX11_tiring σ = some w) : zC (zY0 sc) 6 0 0 mX11_tiring [.ref 56] (zE σ) (none, zE w) := zC.of (by decide +kernel) (Nat.le_of_ble_eq_true rfl) rfl (eX11_tiring σ w h)
theorem dX11_telling_0 : decode cX11_telling 0 = .ok (.aload_n 0, 1) := by decide +kernel
theorem dX11_telling_1 : decode cX11_telling 1 = .ok (.iconst 0, 1) := by decide +kernel
theorem dX11_telling_2 : decode cX11_telling 2 = .ok (.invokevirtual 383, 3) := by decide +kernel
theorem dX11_telling_5 : decode cX11_telling 5 = .ok (.ifCond .ne 4, 3) := by decide +kernel
theorem dX11_telling_8 : decode cX11_telling 8 = .ok (.return_, 1) := by decide +kernel
theorem dX11_telling_9 : decode cX11_telling 9 = .ok (.aload_n 0, 1) := by decide +kernel
theorem dX11_telling_10 : decode cX11_telling 10 = .ok (.iconst 0, 1) := by decide +kernel
theorem dX11_telling_11 : decode cX11_telling 11 = .ok (.iload_n 1, 1) := by decide +kernel
theorem dX11_telling_12 : decode cX11_telling 12 = .ok (.ifCond .eq 8, 3) := by decide +kernel
theorem dX11_telling_15 : decode cX11_telling 15 = .ok (.bipush 100, 2) := by decide +kernel
theorem dX11_telling_17 : decode cX11_telling 17 = .ok (.goto 6, 3) := by decide +kernel
theorem dX11_telling_20 : decode cX11_telling 20 = .ok (.sipush 999, 3) := by decide +kernel
theorem dX11_telling_23 : decode cX11_telling 23 = .ok (.invokevirtual 395, 3) := by decide +kernel
theorem dX11_telling_26 : decode cX11_telling 26 = .ok (.istore_n 2, 1) := by decide +kernel
theorem dX11_telling_27 : decode cX11_telling 27 = .ok (.aload_n 0, 1) := by decide +kernel
theorem dX11_telling_28 : decode cX11_telling 28 = .ok (.getfield 36, 3) := by decide +kernel
theorem dX11_telling_31 : decode cX11_telling 31 = .ok (.ifCond .le 4, 3) := by decide +kernel
theorem dX11_telling_34 : decode cX11_telling 34 = .ok (.return_, 1) := by decide +kernel
theorem dX11_telling_35 : decode cX11_telling 35 = .ok (.iload_n 1, 1) := by decide +kernel
theorem dX11_telling_36 : decode cX11_telling 36 = .ok (.ifCond .eq 16, 3) := by decide +kernel
theorem dX11_telling_39 : decode cX11_telling 39 = .ok (.aload_n 0, 1) := by decide +kernel
theorem dX11_telling_40 : decode cX11_telling 40 = .ok (.getfield 96, 3) := by decide +kernel
theorem dX11_telling_43 : decode cX11_telling 43 = .ok (.aload_n 0, 1) := by decide +kernel
theorem dX11_telling_44 : decode cX11_telling 44 = .ok (.getfield 118, 3) := by decide +kernel
theorem dX11_telling_47 : decode cX11_telling 47 = .ok (.iload_n 2, 1) := by decide +kernel
theorem dX11_telling_48 : decode cX11_telling 48 = .ok (.iastore, 1) := by decide +kernel
theorem dX11_telling_49 : decode cX11_telling 49 = .ok (.goto 13, 3) := by decide +kernel
theorem dX11_telling_52 : decode cX11_telling 52 = .ok (.aload_n 0, 1) := by decide +kernel
theorem dX11_telling_53 : decode cX11_telling 53 = .ok (.getfield 99, 3) := by decide +kernel
theorem dX11_telling_56 : decode cX11_telling 56 = .ok (.aload_n 0, 1) := by decide +kernel
theorem dX11_telling_57 : decode cX11_telling 57 = .ok (.getfield 118, 3) := by decide +kernel
theorem dX11_telling_60 : decode cX11_telling 60 = .ok (.iload_n 2, 1) := by decide +kernel
theorem dX11_telling_61 : decode cX11_telling 61 = .ok (.iastore, 1) := by decide +kernel
theorem dX11_telling_62 : decode cX11_telling 62 = .ok (.return_, 1) := by decide +kernel
def fX11_telling_23 (x1 : Int32) (s0 : Int32) (s1 : Int32) (σ : zS) : Option zS := bnc (fX11_number s1 s0 σ) fun v6 σ4 => if (iG σ4 56 8) ≤ 0 then if x1 = 0 then wI σ4 73 2 (iG σ4 56 35) v6 fun σ7 => some σ7 else wI σ4 72 2 (iG σ4 56 35) v6 fun σ8 => some σ8 else some σ4
theorem kX11_telling_23 {sc : Nat × (Nat → Int32)} (x1 : Int32) (s0 : Int32) (s1 : Int32) (σ : zS) (w : zS) (h : fX11_telling_23 x1 s0 s1 σ = some w) : zR (zY0 sc) 5 0 0 mX11_telling 23 [(0, .ref 56), (1, .int x1)] [.int s0, .int s1, .ref 56] (zE σ) (none, zE w) := by
  unfold fX11_telling_23 at h
  obtain ⟨v6, σ4, e5, h⟩ := bnc_some h
  refine kR.cVi [.int s1, .int s0] dX11_telling_23 rfl (by decide) mwX11_395 zp56 (by decide) rfl rfl (Nat.le_of_ble_eq_true rfl) (lX11_number s1 s0 σ _ e5) ?_
  refine zR.istore_n (i := 2) (ls' := [(2, .int v6), (0, .ref 56), (1, .int x1)]) dX11_telling_26 rfl (by decide) rfl ?_
  refine kR.aload_n dX11_telling_27 1 rfl ?_
  refine kR.getI dX11_telling_28 flX11_36 zcf11 zp56 (Or.inl rfl) ?_
  refine kR.if_le (tgt := 35) dX11_telling_31 (by decide) h (fun h => ?_) (fun h => ?_)
  · refine kR.iload_n dX11_telling_35 2 rfl ?_
    refine kR.if_eq (tgt := 52) dX11_telling_36 (by decide) h (fun h => ?_) (fun h => ?_)
    · refine kR.aload_n dX11_telling_52 1 rfl ?_
      refine kR.getR (v := 73) dX11_telling_53 flX11_99 zcf11 zp56 (Or.inr ⟨_, rfl⟩) rfl ?_
      refine kR.aload_n dX11_telling_56 1 rfl ?_
      refine kR.getI dX11_telling_57 flX11_118 zcf11 zp56 (Or.inl rfl) ?_
      refine kR.iload_n dX11_telling_60 0 rfl ?_
      refine kR.iast dX11_telling_61 zp73 rfl h (fun σ7 h => ?_)
      exact kR.vret dX11_telling_62 h
    · refine kR.aload_n dX11_telling_39 1 rfl ?_
      refine kR.getR (v := 72) dX11_telling_40 flX11_96 zcf11 zp56 (Or.inr ⟨_, rfl⟩) rfl ?_
      refine kR.aload_n dX11_telling_43 1 rfl ?_
      refine kR.getI dX11_telling_44 flX11_118 zcf11 zp56 (Or.inl rfl) ?_
      refine kR.iload_n dX11_telling_47 0 rfl ?_
      refine kR.iast dX11_telling_48 zp72 rfl h (fun σ8 h => ?_)
      refine zR.goto (tgt := 62) dX11_telling_49 (by decide) ?_
      exact kR.vret dX11_telling_62 h
  · exact kR.vret dX11_telling_34 h
def fX11_telling (p1 : Int32) (σ : zS) : Option zS := bnc (fX11_counts 0 σ) fun v3 σ1 => if v3 = 0 then some σ1 else if p1 = 0 then fX11_telling_23 p1 999 0 σ1 else fX11_telling_23 p1 100 0 σ1
theorem eX11_telling {sc : Nat × (Nat → Int32)} (p1 : Int32) (σ : zS) (w : zS) (h : fX11_telling p1 σ = some w) : zR (zY0 sc) 5 0 0 mX11_telling 0 [(0, .ref 56), (1, .int p1)] [] (zE σ) (none, zE w) := by
  unfold fX11_telling at h
  refine kR.aload_n dX11_telling_0 0 rfl ?_
  refine zR.iconst (v := 0) dX11_telling_1 (by decide) ?_
  obtain ⟨v3, σ1, e2, h⟩ := bnc_some h
  refine kR.cVi [.int 0] dX11_telling_2 rfl (by decide) mwX11_383 zp56 (by decide) rfl rfl (Nat.le_of_ble_eq_true rfl) (lX11_counts 0 σ _ e2) ?_
  refine kR.if_ne (tgt := 9) dX11_telling_5 (by decide) h (fun h => ?_) (fun h => ?_)
  · refine kR.aload_n dX11_telling_9 0 rfl ?_
    refine zR.iconst (v := 0) dX11_telling_10 (by decide) ?_
    refine kR.iload_n dX11_telling_11 1 rfl ?_
    refine kR.if_eq (tgt := 20) dX11_telling_12 (by decide) h (fun h => ?_) (fun h => ?_)
    · refine zR.sipush (v := 999) dX11_telling_20 (by decide) ?_
      exact kX11_telling_23 _ _ _ _ _ h
    · refine zR.bipush (v := 100) dX11_telling_15 (by decide) ?_
      refine zR.goto (tgt := 23) dX11_telling_17 (by decide) ?_
      exact kX11_telling_23 _ _ _ _ _ h
  · exact kR.vret dX11_telling_8 h
theorem lX11_telling {sc : Nat × (Nat → Int32)} (p1 : Int32) (σ : zS) (w : zS) (h : fX11_telling p1 σ = some w) : zC (zY0 sc) 5 0 0 mX11_telling [.ref 56, .int p1] (zE σ) (none, zE w) := zC.of (by decide +kernel) (Nat.le_of_ble_eq_true rfl) rfl (eX11_telling p1 σ w h)
theorem dX11_statement_0 : decode cX11_statement 0 = .ok (.aload_n 0, 1) := by decide +kernel
theorem dX11_statement_1 : decode cX11_statement 1 = .ok (.invokevirtual 271, 3) := by decide +kernel
theorem dX11_statement_4 : decode cX11_statement 4 = .ok (.aload_n 0, 1) := by decide +kernel
theorem dX11_statement_5 : decode cX11_statement 5 = .ok (.getfield 36, 3) := by decide +kernel
theorem dX11_statement_8 : decode cX11_statement 8 = .ok (.ifCond .le 4, 3) := by decide +kernel
theorem dX11_statement_11 : decode cX11_statement 11 = .ok (.return_, 1) := by decide +kernel
theorem dX11_statement_12 : decode cX11_statement 12 = .ok (.aload_n 0, 1) := by decide +kernel
theorem dX11_statement_13 : decode cX11_statement 13 = .ok (.ldc2_w 280, 3) := by decide +kernel
theorem dX11_statement_16 : decode cX11_statement 16 = .ok (.invokevirtual 357, 3) := by decide +kernel
theorem dX11_statement_19 : decode cX11_statement 19 = .ok (.ifCond .eq 10, 3) := by decide +kernel
theorem dX11_statement_22 : decode cX11_statement 22 = .ok (.aload_n 0, 1) := by decide +kernel
theorem dX11_statement_23 : decode cX11_statement 23 = .ok (.invokevirtual 405, 3) := by decide +kernel
theorem dX11_statement_26 : decode cX11_statement 26 = .ok (.goto 133, 3) := by decide +kernel
theorem dX11_statement_29 : decode cX11_statement 29 = .ok (.aload_n 0, 1) := by decide +kernel
theorem dX11_statement_30 : decode cX11_statement 30 = .ok (.ldc2_w 288, 3) := by decide +kernel
theorem dX11_statement_33 : decode cX11_statement 33 = .ok (.invokevirtual 357, 3) := by decide +kernel
theorem dX11_statement_36 : decode cX11_statement 36 = .ok (.ifCond .eq 10, 3) := by decide +kernel
theorem dX11_statement_39 : decode cX11_statement 39 = .ok (.aload_n 0, 1) := by decide +kernel
theorem dX11_statement_40 : decode cX11_statement 40 = .ok (.invokevirtual 408, 3) := by decide +kernel
theorem dX11_statement_43 : decode cX11_statement 43 = .ok (.goto 116, 3) := by decide +kernel
theorem dX11_statement_46 : decode cX11_statement 46 = .ok (.aload_n 0, 1) := by decide +kernel
theorem dX11_statement_47 : decode cX11_statement 47 = .ok (.ldc2_w 294, 3) := by decide +kernel
theorem dX11_statement_50 : decode cX11_statement 50 = .ok (.invokevirtual 357, 3) := by decide +kernel
theorem dX11_statement_53 : decode cX11_statement 53 = .ok (.ifCond .eq 10, 3) := by decide +kernel
theorem dX11_statement_56 : decode cX11_statement 56 = .ok (.aload_n 0, 1) := by decide +kernel
theorem dX11_statement_57 : decode cX11_statement 57 = .ok (.invokevirtual 411, 3) := by decide +kernel
theorem dX11_statement_60 : decode cX11_statement 60 = .ok (.goto 99, 3) := by decide +kernel
theorem dX11_statement_63 : decode cX11_statement 63 = .ok (.aload_n 0, 1) := by decide +kernel
theorem dX11_statement_64 : decode cX11_statement 64 = .ok (.ldc2_w 296, 3) := by decide +kernel
theorem dX11_statement_67 : decode cX11_statement 67 = .ok (.invokevirtual 357, 3) := by decide +kernel
theorem dX11_statement_70 : decode cX11_statement 70 = .ok (.ifCond .eq 10, 3) := by decide +kernel
theorem dX11_statement_73 : decode cX11_statement 73 = .ok (.aload_n 0, 1) := by decide +kernel
theorem dX11_statement_74 : decode cX11_statement 74 = .ok (.invokevirtual 414, 3) := by decide +kernel
theorem dX11_statement_77 : decode cX11_statement 77 = .ok (.goto 82, 3) := by decide +kernel
theorem dX11_statement_80 : decode cX11_statement 80 = .ok (.aload_n 0, 1) := by decide +kernel
theorem dX11_statement_81 : decode cX11_statement 81 = .ok (.ldc2_w 298, 3) := by decide +kernel
theorem dX11_statement_84 : decode cX11_statement 84 = .ok (.invokevirtual 357, 3) := by decide +kernel
theorem dX11_statement_87 : decode cX11_statement 87 = .ok (.ifCond .eq 10, 3) := by decide +kernel
theorem dX11_statement_90 : decode cX11_statement 90 = .ok (.aload_n 0, 1) := by decide +kernel
theorem dX11_statement_91 : decode cX11_statement 91 = .ok (.invokevirtual 417, 3) := by decide +kernel
theorem dX11_statement_94 : decode cX11_statement 94 = .ok (.goto 65, 3) := by decide +kernel
theorem dX11_statement_97 : decode cX11_statement 97 = .ok (.aload_n 0, 1) := by decide +kernel
theorem dX11_statement_98 : decode cX11_statement 98 = .ok (.ldc2_w 300, 3) := by decide +kernel
theorem dX11_statement_101 : decode cX11_statement 101 = .ok (.invokevirtual 357, 3) := by decide +kernel
theorem dX11_statement_104 : decode cX11_statement 104 = .ok (.ifCond .eq 10, 3) := by decide +kernel
theorem dX11_statement_107 : decode cX11_statement 107 = .ok (.aload_n 0, 1) := by decide +kernel
theorem dX11_statement_108 : decode cX11_statement 108 = .ok (.invokevirtual 420, 3) := by decide +kernel
theorem dX11_statement_111 : decode cX11_statement 111 = .ok (.goto 48, 3) := by decide +kernel
theorem dX11_statement_114 : decode cX11_statement 114 = .ok (.aload_n 0, 1) := by decide +kernel
theorem dX11_statement_115 : decode cX11_statement 115 = .ok (.ldc2_w 302, 3) := by decide +kernel
theorem dX11_statement_118 : decode cX11_statement 118 = .ok (.invokevirtual 357, 3) := by decide +kernel
theorem dX11_statement_121 : decode cX11_statement 121 = .ok (.ifCond .eq 11, 3) := by decide +kernel
theorem dX11_statement_124 : decode cX11_statement 124 = .ok (.aload_n 0, 1) := by decide +kernel
theorem dX11_statement_125 : decode cX11_statement 125 = .ok (.iconst 1, 1) := by decide +kernel
theorem dX11_statement_126 : decode cX11_statement 126 = .ok (.invokevirtual 423, 3) := by decide +kernel
theorem dX11_statement_129 : decode cX11_statement 129 = .ok (.goto 30, 3) := by decide +kernel
theorem dX11_statement_132 : decode cX11_statement 132 = .ok (.aload_n 0, 1) := by decide +kernel
theorem dX11_statement_133 : decode cX11_statement 133 = .ok (.ldc2_w 304, 3) := by decide +kernel
theorem dX11_statement_136 : decode cX11_statement 136 = .ok (.invokevirtual 357, 3) := by decide +kernel
theorem dX11_statement_139 : decode cX11_statement 139 = .ok (.ifCond .eq 11, 3) := by decide +kernel
theorem dX11_statement_142 : decode cX11_statement 142 = .ok (.aload_n 0, 1) := by decide +kernel
theorem dX11_statement_143 : decode cX11_statement 143 = .ok (.iconst 0, 1) := by decide +kernel
theorem dX11_statement_144 : decode cX11_statement 144 = .ok (.invokevirtual 423, 3) := by decide +kernel
theorem dX11_statement_147 : decode cX11_statement 147 = .ok (.goto 12, 3) := by decide +kernel
theorem dX11_statement_150 : decode cX11_statement 150 = .ok (.aload_n 0, 1) := by decide +kernel
theorem dX11_statement_151 : decode cX11_statement 151 = .ok (.iconst 1, 1) := by decide +kernel
theorem dX11_statement_152 : decode cX11_statement 152 = .ok (.aload_n 0, 1) := by decide +kernel
theorem dX11_statement_153 : decode cX11_statement 153 = .ok (.getfield 23, 3) := by decide +kernel
theorem dX11_statement_156 : decode cX11_statement 156 = .ok (.invokevirtual 260, 3) := by decide +kernel
theorem dX11_statement_159 : decode cX11_statement 159 = .ok (.return_, 1) := by decide +kernel
def fX11_statement (σ : zS) : Option zS := bnr (fX11_lex σ) fun σ1 => if (iG σ1 56 8) ≤ 0 then if (fX11_isWord σ1 128047712724332) = 0 then if (fX11_isWord σ1 114827769177458) = 0 then if (fX11_isWord σ1 127991794264947) = 0 then if (fX11_isWord σ1 444150998387) = 0 then if (fX11_isWord σ1 512970880104) = 0 then if (fX11_isWord σ1 499985311091) = 0 then if (fX11_isWord σ1 1936024942) = 0 then if (fX11_isWord σ1 1718185573) = 0 then bnr (fX11_blame 1 (iG σ1 56 4) σ1) fun σ3 => some σ3 else bnr (fX11_telling 0 σ1) fun σ5 => some σ5 else bnr (fX11_telling 1 σ1) fun σ7 => some σ7 else bnr (fX11_tiring σ1) fun σ9 => some σ9 else bnr (fX11_worthing σ1) fun σ11 => some σ11 else bnr (fX11_giving σ1) fun σ13 => some σ13 else bnr (fX11_thinking σ1) fun σ15 => some σ15 else bnr (fX11_holdering σ1) fun σ17 => some σ17 else bnr (fX11_tunnelling σ1) fun σ19 => some σ19 else some σ1
theorem eX11_statement {sc : Nat × (Nat → Int32)} (σ : zS) (w : zS) (h : fX11_statement σ = some w) : zR (zY0 sc) 7 0 0 mX11_statement 0 [(0, .ref 56)] [] (zE σ) (none, zE w) := by
  unfold fX11_statement at h
  refine kR.aload_n dX11_statement_0 0 rfl ?_
  obtain ⟨σ1, e2, h⟩ := bnr_some h
  refine kR.cVv [] dX11_statement_1 rfl (by decide) mwX11_271 zp56 (by decide) rfl rfl (Nat.le_of_ble_eq_true rfl) (lX11_lex σ _ e2) ?_
  refine kR.aload_n dX11_statement_4 0 rfl ?_
  refine kR.getI dX11_statement_5 flX11_36 zcf11 zp56 (Or.inl rfl) ?_
  refine kR.if_le (tgt := 12) dX11_statement_8 (by decide) h (fun h => ?_) (fun h => ?_)
  · refine kR.aload_n dX11_statement_12 0 rfl ?_
    refine zR.ldc2 (v := 128047712724332) dX11_statement_13 clX11_280 ?_
    refine kR.cVi [.long 128047712724332] dX11_statement_16 rfl (by decide) mwX11_357 zp56 (by decide) rfl rfl (Nat.le_of_ble_eq_true rfl) (lX11_isWord σ1 128047712724332) ?_
    refine kR.if_eq (tgt := 29) dX11_statement_19 (by decide) h (fun h => ?_) (fun h => ?_)
    · refine kR.aload_n dX11_statement_29 0 rfl ?_
      refine zR.ldc2 (v := 114827769177458) dX11_statement_30 clX11_288 ?_
      refine kR.cVi [.long 114827769177458] dX11_statement_33 rfl (by decide) mwX11_357 zp56 (by decide) rfl rfl (Nat.le_of_ble_eq_true rfl) (lX11_isWord σ1 114827769177458) ?_
      refine kR.if_eq (tgt := 46) dX11_statement_36 (by decide) h (fun h => ?_) (fun h => ?_)
      · refine kR.aload_n dX11_statement_46 0 rfl ?_
        refine zR.ldc2 (v := 127991794264947) dX11_statement_47 clX11_294 ?_
        refine kR.cVi [.long 127991794264947] dX11_statement_50 rfl (by decide) mwX11_357 zp56 (by decide) rfl rfl (Nat.le_of_ble_eq_true rfl) (lX11_isWord σ1 127991794264947) ?_
        refine kR.if_eq (tgt := 63) dX11_statement_53 (by decide) h (fun h => ?_) (fun h => ?_)
        · refine kR.aload_n dX11_statement_63 0 rfl ?_
          refine zR.ldc2 (v := 444150998387) dX11_statement_64 clX11_296 ?_
          refine kR.cVi [.long 444150998387] dX11_statement_67 rfl (by decide) mwX11_357 zp56 (by decide) rfl rfl (Nat.le_of_ble_eq_true rfl) (lX11_isWord σ1 444150998387) ?_
          refine kR.if_eq (tgt := 80) dX11_statement_70 (by decide) h (fun h => ?_) (fun h => ?_)
          · refine kR.aload_n dX11_statement_80 0 rfl ?_
            refine zR.ldc2 (v := 512970880104) dX11_statement_81 clX11_298 ?_
            refine kR.cVi [.long 512970880104] dX11_statement_84 rfl (by decide) mwX11_357 zp56 (by decide) rfl rfl (Nat.le_of_ble_eq_true rfl) (lX11_isWord σ1 512970880104) ?_
            refine kR.if_eq (tgt := 97) dX11_statement_87 (by decide) h (fun h => ?_) (fun h => ?_)
            · refine kR.aload_n dX11_statement_97 0 rfl ?_
              refine zR.ldc2 (v := 499985311091) dX11_statement_98 clX11_300 ?_
              refine kR.cVi [.long 499985311091] dX11_statement_101 rfl (by decide) mwX11_357 zp56 (by decide) rfl rfl (Nat.le_of_ble_eq_true rfl) (lX11_isWord σ1 499985311091) ?_
              refine kR.if_eq (tgt := 114) dX11_statement_104 (by decide) h (fun h => ?_) (fun h => ?_)
              · refine kR.aload_n dX11_statement_114 0 rfl ?_
                refine zR.ldc2 (v := 1936024942) dX11_statement_115 clX11_302 ?_
                refine kR.cVi [.long 1936024942] dX11_statement_118 rfl (by decide) mwX11_357 zp56 (by decide) rfl rfl (Nat.le_of_ble_eq_true rfl) (lX11_isWord σ1 1936024942) ?_
                refine kR.if_eq (tgt := 132) dX11_statement_121 (by decide) h (fun h => ?_) (fun h => ?_)
                · refine kR.aload_n dX11_statement_132 0 rfl ?_
                  refine zR.ldc2 (v := 1718185573) dX11_statement_133 clX11_304 ?_
                  refine kR.cVi [.long 1718185573] dX11_statement_136 rfl (by decide) mwX11_357 zp56 (by decide) rfl rfl (Nat.le_of_ble_eq_true rfl) (lX11_isWord σ1 1718185573) ?_
                  refine kR.if_eq (tgt := 150) dX11_statement_139 (by decide) h (fun h => ?_) (fun h => ?_)
                  · refine kR.aload_n dX11_statement_150 0 rfl ?_
                    refine zR.iconst (v := 1) dX11_statement_151 (by decide) ?_
                    refine kR.aload_n dX11_statement_152 0 rfl ?_
                    refine kR.getI dX11_statement_153 flX11_23 zcf11 zp56 (Or.inl rfl) ?_
                    obtain ⟨σ3, e4, h⟩ := bnr_some h
                    refine kR.cVv [.int 1, .int (iG σ1 56 4)] dX11_statement_156 rfl (by decide) mwX11_260 zp56 (by decide) rfl rfl (Nat.le_of_ble_eq_true rfl) (lX11_blame 1 (iG σ1 56 4) σ1 _ e4) ?_
                    exact kR.vret dX11_statement_159 h
                  · refine kR.aload_n dX11_statement_142 0 rfl ?_
                    refine zR.iconst (v := 0) dX11_statement_143 (by decide) ?_
                    obtain ⟨σ5, e6, h⟩ := bnr_some h
                    refine kR.cVv [.int 0] dX11_statement_144 rfl (by decide) mwX11_423 zp56 (by decide) rfl rfl (Nat.le_of_ble_eq_true rfl) (lX11_telling 0 σ1 _ e6) ?_
                    refine zR.goto (tgt := 159) dX11_statement_147 (by decide) ?_
                    exact kR.vret dX11_statement_159 h
                · refine kR.aload_n dX11_statement_124 0 rfl ?_
                  refine zR.iconst (v := 1) dX11_statement_125 (by decide) ?_
                  obtain ⟨σ7, e8, h⟩ := bnr_some h
                  refine kR.cVv [.int 1] dX11_statement_126 rfl (by decide) mwX11_423 zp56 (by decide) rfl rfl (Nat.le_of_ble_eq_true rfl) (lX11_telling 1 σ1 _ e8) ?_
                  refine zR.goto (tgt := 159) dX11_statement_129 (by decide) ?_
                  exact kR.vret dX11_statement_159 h
              · refine kR.aload_n dX11_statement_107 0 rfl ?_
                obtain ⟨σ9, e10, h⟩ := bnr_some h
                refine kR.cVv [] dX11_statement_108 rfl (by decide) mwX11_420 zp56 (by decide) rfl rfl (Nat.le_of_ble_eq_true rfl) (lX11_tiring σ1 _ e10) ?_
                refine zR.goto (tgt := 159) dX11_statement_111 (by decide) ?_
                exact kR.vret dX11_statement_159 h
            · refine kR.aload_n dX11_statement_90 0 rfl ?_
              obtain ⟨σ11, e12, h⟩ := bnr_some h
              refine kR.cVv [] dX11_statement_91 rfl (by decide) mwX11_417 zp56 (by decide) rfl rfl (Nat.le_of_ble_eq_true rfl) (lX11_worthing σ1 _ e12) ?_
              refine zR.goto (tgt := 159) dX11_statement_94 (by decide) ?_
              exact kR.vret dX11_statement_159 h
          · refine kR.aload_n dX11_statement_73 0 rfl ?_
            obtain ⟨σ13, e14, h⟩ := bnr_some h
            refine kR.cVv [] dX11_statement_74 rfl (by decide) mwX11_414 zp56 (by decide) rfl rfl (Nat.le_of_ble_eq_true rfl) (lX11_giving σ1 _ e14) ?_
            refine zR.goto (tgt := 159) dX11_statement_77 (by decide) ?_
            exact kR.vret dX11_statement_159 h
        · refine kR.aload_n dX11_statement_56 0 rfl ?_
          obtain ⟨σ15, e16, h⟩ := bnr_some h
          refine kR.cVv [] dX11_statement_57 rfl (by decide) mwX11_411 zp56 (by decide) rfl rfl (Nat.le_of_ble_eq_true rfl) (lX11_thinking σ1 _ e16) ?_
          refine zR.goto (tgt := 159) dX11_statement_60 (by decide) ?_
          exact kR.vret dX11_statement_159 h
      · refine kR.aload_n dX11_statement_39 0 rfl ?_
        obtain ⟨σ17, e18, h⟩ := bnr_some h
        refine kR.cVv [] dX11_statement_40 rfl (by decide) mwX11_408 zp56 (by decide) rfl rfl (Nat.le_of_ble_eq_true rfl) (lX11_holdering σ1 _ e18) ?_
        refine zR.goto (tgt := 159) dX11_statement_43 (by decide) ?_
        exact kR.vret dX11_statement_159 h
    · refine kR.aload_n dX11_statement_22 0 rfl ?_
      obtain ⟨σ19, e20, h⟩ := bnr_some h
      refine kR.cVv [] dX11_statement_23 rfl (by decide) mwX11_405 zp56 (by decide) rfl rfl (Nat.le_of_ble_eq_true rfl) (lX11_tunnelling σ1 _ e20) ?_
      refine zR.goto (tgt := 159) dX11_statement_26 (by decide) ?_
      exact kR.vret dX11_statement_159 h
  · exact kR.vret dX11_statement_11 h
theorem lX11_statement {sc : Nat × (Nat → Int32)} (σ : zS) (w : zS) (h : fX11_statement σ = some w) : zC (zY0 sc) 7 0 0 mX11_statement [.ref 56] (zE σ) (none, zE w) := zC.of (by decide +kernel) (Nat.le_of_ble_eq_true rfl) rfl (eX11_statement σ w h)

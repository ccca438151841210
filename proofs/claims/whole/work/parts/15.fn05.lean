/-! MY OWN (by program): X0_bestSecond, GX0_addPlanned, X0_plan, X10_alone, X10_on, X0_fillAgainstOthers, X0_isAnyMoved, X0_settle -/
theorem dX0_bestSecond_0 : decode cX0_bestSecond 0 = .ok (.iconst 0, 1) := by decide +kernel
theorem dX0_bestSecond_1 : decode cX0_bestSecond 1 = .ok (.istore_n 3, 1) := by decide +kernel
theorem dX0_bestSecond_2 : decode cX0_bestSecond 2 = .ok (.aload_n 0, 1) := by decide +kernel
theorem dX0_bestSecond_3 : decode cX0_bestSecond 3 = .ok (.getfield 9, 3) := by decide +kernel
theorem dX0_bestSecond_6 : decode cX0_bestSecond 6 = .ok (.iload_n 1, 1) := by decide +kernel
theorem dX0_bestSecond_7 : decode cX0_bestSecond 7 = .ok (.invokestatic 59, 3) := by decide +kernel
theorem dX0_bestSecond_10 : decode cX0_bestSecond 10 = .ok (.lstore 4, 2) := by decide +kernel
theorem dX0_bestSecond_12 : decode cX0_bestSecond 12 = .ok (.iconst 1, 1) := by decide +kernel
theorem dX0_bestSecond_13 : decode cX0_bestSecond 13 = .ok (.istore 6, 2) := by decide +kernel
theorem dX0_bestSecond_15 : decode cX0_bestSecond 15 = .ok (.iload 6, 2) := by decide +kernel
theorem dX0_bestSecond_17 : decode cX0_bestSecond 17 = .ok (.iload_n 2, 1) := by decide +kernel
theorem dX0_bestSecond_18 : decode cX0_bestSecond 18 = .ok (.if_icmp .gt 37, 3) := by decide +kernel
theorem dX0_bestSecond_21 : decode cX0_bestSecond 21 = .ok (.aload_n 0, 1) := by decide +kernel
theorem dX0_bestSecond_22 : decode cX0_bestSecond 22 = .ok (.getfield 9, 3) := by decide +kernel
theorem dX0_bestSecond_25 : decode cX0_bestSecond 25 = .ok (.iload_n 1, 1) := by decide +kernel
theorem dX0_bestSecond_26 : decode cX0_bestSecond 26 = .ok (.iload 6, 2) := by decide +kernel
theorem dX0_bestSecond_28 : decode cX0_bestSecond 28 = .ok (.iadd, 1) := by decide +kernel
theorem dX0_bestSecond_29 : decode cX0_bestSecond 29 = .ok (.invokestatic 59, 3) := by decide +kernel
theorem dX0_bestSecond_32 : decode cX0_bestSecond 32 = .ok (.lstore 7, 2) := by decide +kernel
theorem dX0_bestSecond_34 : decode cX0_bestSecond 34 = .ok (.lload 7, 2) := by decide +kernel
theorem dX0_bestSecond_36 : decode cX0_bestSecond 36 = .ok (.lload 4, 2) := by decide +kernel
theorem dX0_bestSecond_38 : decode cX0_bestSecond 38 = .ok (.lcmp, 1) := by decide +kernel
theorem dX0_bestSecond_39 : decode cX0_bestSecond 39 = .ok (.ifCond .le 10, 3) := by decide +kernel
theorem dX0_bestSecond_42 : decode cX0_bestSecond 42 = .ok (.lload 7, 2) := by decide +kernel
theorem dX0_bestSecond_44 : decode cX0_bestSecond 44 = .ok (.lstore 4, 2) := by decide +kernel
theorem dX0_bestSecond_46 : decode cX0_bestSecond 46 = .ok (.iload 6, 2) := by decide +kernel
theorem dX0_bestSecond_48 : decode cX0_bestSecond 48 = .ok (.istore_n 3, 1) := by decide +kernel
theorem dX0_bestSecond_49 : decode cX0_bestSecond 49 = .ok (.iinc 6 1, 3) := by decide +kernel
theorem dX0_bestSecond_52 : decode cX0_bestSecond 52 = .ok (.goto (-37), 3) := by decide +kernel
theorem dX0_bestSecond_55 : decode cX0_bestSecond 55 = .ok (.iload_n 3, 1) := by decide +kernel
theorem dX0_bestSecond_56 : decode cX0_bestSecond 56 = .ok (.ireturn, 1) := by decide +kernel
def nX0_bestSecond_35 (σ : zS) (r15 : Int32 → Int32 → Int32 → Int64 → Int32 → Option Int32) (x1 : Int32) (x2 : Int32) (x3 : Int32) (x4 : Int64) (x6 : Int32) : Option Int32 := r15 x1 x2 x3 x4 (x6 + 1)
theorem kX0_bestSecond_49 {sc : Nat × (Nat → Int32)} (σ : zS) (r15 : Int32 → Int32 → Int32 → Int64 → Int32 → Option Int32) (hr15 : ∀ (x1 : Int32) (x2 : Int32) (x3 : Int32) (x4 : Int64) (x6 : Int32) (w : Int32), r15 x1 x2 x3 x4 x6 = some w → zR (zY0 sc) 2 0 0 mX0_bestSecond 15 [(0, .ref 27), (1, .int x1), (2, .int x2), (3, .int x3), (4, .long x4), (6, .int x6)] [] (zE σ) (some (.int w), zE σ)) (x1 : Int32) (x2 : Int32) (x3 : Int32) (x4 : Int64) (x6 : Int32) (w : Int32) (h : nX0_bestSecond_35 σ r15 x1 x2 x3 x4 x6 = some w) : zR (zY0 sc) 2 0 0 mX0_bestSecond 49 [(0, .ref 27), (1, .int x1), (2, .int x2), (3, .int x3), (4, .long x4), (6, .int x6)] [] (zE σ) (some (.int w), zE σ) := by
  unfold nX0_bestSecond_35 at h
  refine zR.iinc 5 (v := x6 + 1) (ls' := [(6, .int (x6 + 1)), (0, .ref 27), (1, .int x1), (2, .int x2), (3, .int x3), (4, .long x4)]) dX0_bestSecond_49 rfl rfl (by decide) rfl ?_
  refine zR.goto (tgt := 15) dX0_bestSecond_52 (by decide) ?_
  refine zR.sub [1, 2, 3, 4, 5, 0] rfl ?_
  exact hr15 _ _ _ _ _ _ h
def nX0_bestSecond_5 (σ : zS) : Nat → Int32 → Int32 → Int32 → Int64 → Int32 → Option Int32
  | 0, _, _, _, _, _ => none
  | f + 1, x1, x2, x3, x4, x6 => if x2 < x6 then some x3 else bnr (fX10_valueAt_ 28 244 σ (x1 + x6)) fun v3 => if v3 ≤ x4 then nX0_bestSecond_35 σ (nX0_bestSecond_5 σ f) x1 x2 x3 x4 x6 else nX0_bestSecond_35 σ (nX0_bestSecond_5 σ f) x1 x2 x6 v3 x6
theorem kX0_bestSecond_15 {sc : Nat × (Nat → Int32)} (σ : zS) : ∀ (fuel : Nat) (x1 : Int32) (x2 : Int32) (x3 : Int32) (x4 : Int64) (x6 : Int32) (w : Int32) (h : nX0_bestSecond_5 σ fuel x1 x2 x3 x4 x6 = some w), zR (zY0 sc) 2 0 0 mX0_bestSecond 15 [(0, .ref 27), (1, .int x1), (2, .int x2), (3, .int x3), (4, .long x4), (6, .int x6)] [] (zE σ) (some (.int w), zE σ) := by
  intro fuel
  induction fuel with
  | zero => intro x1 x2 x3 x4 x6 w h; exact nomatch h
  | succ f ih =>
    intro x1 x2 x3 x4 x6 w h
    rw [nX0_bestSecond_5] at h
    refine kR.iload dX0_bestSecond_15 5 rfl ?_
    refine kR.iload_n dX0_bestSecond_17 2 rfl ?_
    refine kR.icmp_gt (tgt := 55) dX0_bestSecond_18 (by decide) h (fun h => ?_) (fun h => ?_)
    · refine kR.iload_n dX0_bestSecond_55 3 rfl ?_
      exact kR.iretO dX0_bestSecond_56 (nzI rfl _) h
    · refine kR.aload_n dX0_bestSecond_21 0 rfl ?_
      refine kR.getR (v := 28) dX0_bestSecond_22 flX0_9 zcf0 zp27 (Or.inr ⟨_, rfl⟩) rfl ?_
      refine kR.iload_n dX0_bestSecond_25 1 rfl ?_
      refine kR.iload dX0_bestSecond_26 5 rfl ?_
      refine zR.iadd dX0_bestSecond_28 ?_
      obtain ⟨v3, e4, h⟩ := bnr_some h
      refine kR.cSl [.ref 28, .int (x1 + x6)] dX0_bestSecond_29 rfl (by decide) (Or.inr mwX0_59) rfl (Nat.le_of_ble_eq_true rfl) (lX10_valueAt_ 28 244 σ (fun _ => zp28) rfl (Nat.le_of_ble_eq_true rfl) (x1 + x6) _ e4) ?_
      refine zR.lstore (i := 7) (ls' := [(7, .long v3), (0, .ref 27), (1, .int x1), (2, .int x2), (3, .int x3), (4, .long x4), (6, .int x6)]) dX0_bestSecond_32 (by decide) rfl ?_
      refine kR.lload dX0_bestSecond_34 0 rfl ?_
      refine kR.lload dX0_bestSecond_36 5 rfl ?_
      refine kR.lcmp_le (tgt := 49) dX0_bestSecond_38 dX0_bestSecond_39 (by decide) h (fun h => ?_) (fun h => ?_)
      · refine zR.sub [1, 2, 3, 4, 5, 6] rfl ?_
        exact kX0_bestSecond_49 σ (nX0_bestSecond_5 σ f) ih _ _ _ _ _ _ h
      · refine kR.lload dX0_bestSecond_42 0 rfl ?_
        refine zR.lstore (i := 4) (ls' := [(4, .long v3), (7, .long v3), (0, .ref 27), (1, .int x1), (2, .int x2), (3, .int x3), (6, .int x6)]) dX0_bestSecond_44 (by decide) rfl ?_
        refine kR.iload dX0_bestSecond_46 6 rfl ?_
        refine zR.istore_n (i := 3) (ls' := [(3, .int x6), (4, .long v3), (7, .long v3), (0, .ref 27), (1, .int x1), (2, .int x2), (6, .int x6)]) dX0_bestSecond_48 rfl (by decide) rfl ?_
        refine zR.sub [3, 4, 5, 0, 1, 6] rfl ?_
        exact kX0_bestSecond_49 σ (nX0_bestSecond_5 σ f) ih _ _ _ _ _ _ h
def nX0_bestSecond (σ : zS) (p1 : Int32) (p2 : Int32) : Option Int32 := bnr (fX10_valueAt_ 28 244 σ p1) fun v1 => nX0_bestSecond_5 σ zF p1 p2 0 v1 1
theorem eX0_bestSecond {sc : Nat × (Nat → Int32)} (σ : zS) (p1 : Int32) (p2 : Int32) (w : Int32) (h : nX0_bestSecond σ p1 p2 = some w) : zR (zY0 sc) 2 0 0 mX0_bestSecond 0 [(0, .ref 27), (1, .int p1), (2, .int p2)] [] (zE σ) (some (.int w), zE σ) := by
  unfold nX0_bestSecond at h
  refine zR.iconst (v := 0) dX0_bestSecond_0 (by decide) ?_
  refine zR.istore_n (i := 3) (ls' := [(3, .int 0), (0, .ref 27), (1, .int p1), (2, .int p2)]) dX0_bestSecond_1 rfl (by decide) rfl ?_
  refine kR.aload_n dX0_bestSecond_2 1 rfl ?_
  refine kR.getR (v := 28) dX0_bestSecond_3 flX0_9 zcf0 zp27 (Or.inr ⟨_, rfl⟩) rfl ?_
  refine kR.iload_n dX0_bestSecond_6 2 rfl ?_
  obtain ⟨v1, e2, h⟩ := bnr_some h
  refine kR.cSl [.ref 28, .int p1] dX0_bestSecond_7 rfl (by decide) (Or.inr mwX0_59) rfl (Nat.le_of_ble_eq_true rfl) (lX10_valueAt_ 28 244 σ (fun _ => zp28) rfl (Nat.le_of_ble_eq_true rfl) p1 _ e2) ?_
  refine zR.lstore (i := 4) (ls' := [(4, .long v1), (3, .int 0), (0, .ref 27), (1, .int p1), (2, .int p2)]) dX0_bestSecond_10 (by decide) rfl ?_
  refine zR.iconst (v := 1) dX0_bestSecond_12 (by decide) ?_
  refine zR.istore (i := 6) (ls' := [(6, .int 1), (4, .long v1), (3, .int 0), (0, .ref 27), (1, .int p1), (2, .int p2)]) dX0_bestSecond_13 (by decide) rfl ?_
  refine zR.sub [3, 4, 5, 2, 1, 0] rfl ?_
  exact kX0_bestSecond_15 σ zF _ _ _ _ _ _ h
theorem lnX0_bestSecond {sc : Nat × (Nat → Int32)} (σ : zS) (p1 : Int32) (p2 : Int32) (w : Int32) (h : nX0_bestSecond σ p1 p2 = some w) : zC (zY0 sc) 2 0 0 mX0_bestSecond [.ref 27, .int p1, .int p2] (zE σ) (some (.int w), zE σ) := zC.of (by decide +kernel) (Nat.le_of_ble_eq_true rfl) ⟨_, rfl⟩ (eX0_bestSecond σ p1 p2 w h)
def fX0_bestSecond_35 (σ : zS) (r5 : Int32 → Int32 → Int32 → Int32 → Option Int32) (x1 : Int32) (x2 : Int32) (x3 : Int32) (x4 : Int32) : Option Int32 := r5 x1 x2 x3 (x4 + 1)
def fX0_bestSecond_5 (σ : zS) : Nat → Int32 → Int32 → Int32 → Int32 → Option Int32
  | 0, _, _, _, _ => none
  | f + 1, x1, x2, x3, x4 => if x2 < x4 then some x3 else aL σ 28 244 (x1 + x4) fun v1 => aL σ 28 244 (x1 + x3) fun v2 => if v1 ≤ v2 then fX0_bestSecond_35 σ (fX0_bestSecond_5 σ f) x1 x2 x3 x4 else fX0_bestSecond_35 σ (fX0_bestSecond_5 σ f) x1 x2 x4 x4
def fX0_bestSecond (σ : zS) (p1 : Int32) (p2 : Int32) : Option Int32 := fX0_bestSecond_5 σ zF p1 p2 0 1
theorem br_bS (σ : zS) (x1 x2 : Int32) : ∀ (f : Nat) (b k w : Int32) (m : Int64), (ixb (x1 + b) 244 = true → m = lG σ 28 (x1 + b).toNatClampNeg) → fX0_bestSecond_5 σ f x1 x2 b k = some w → nX0_bestSecond_5 σ f x1 x2 b m k = some w := by
  intro f
  induction f with
  | zero => intro b k w m _ h; exact nomatch h
  | succ f ih =>
    intro b k w m hm h
    rw [fX0_bestSecond_5] at h
    rw [nX0_bestSecond_5]
    by_cases c : x2 < k
    · rw [if_pos c] at h ⊢
      exact h
    · rw [if_neg c] at h ⊢
      obtain ⟨b1, h⟩ := bq_aL h
      obtain ⟨b2, h⟩ := bq_aL h
      obtain ⟨v, e, hv⟩ := bq_val σ 28 244 (x1 + k) (by decide)
      rw [bq_bnr e]
      have e1 := hv b1
      have e2 := hm b2
      rw [← e1, ← e2] at h
      unfold fX0_bestSecond_35 at h
      unfold nX0_bestSecond_35
      by_cases c2 : v ≤ m
      · rw [if_pos c2] at h ⊢
        exact ih _ _ _ _ hm h
      · rw [if_neg c2] at h ⊢
        exact ih _ _ _ _ hv h
theorem br_X0_bestSecond {σ : zS} {p1 p2 w : Int32} (h : fX0_bestSecond σ p1 p2 = some w) : nX0_bestSecond σ p1 p2 = some w := by
  unfold fX0_bestSecond at h
  unfold nX0_bestSecond
  obtain ⟨v, e, hv⟩ := bq_val σ 28 244 p1 (by decide)
  rw [bq_bnr e]
  refine br_bS σ p1 p2 zF 0 1 w v ?_ h
  rw [Int32.add_zero]
  exact hv
theorem lX0_bestSecond {sc : Nat × (Nat → Int32)} (σ : zS) (p1 : Int32) (p2 : Int32) (w : Int32) (h : fX0_bestSecond σ p1 p2 = some w) : zC (zY0 sc) 2 0 0 mX0_bestSecond [.ref 27, .int p1, .int p2] (zE σ) (some (.int w), zE σ) := lnX0_bestSecond σ p1 p2 w (br_X0_bestSecond h)
abbrev TGX0_addPlanned : Type := (Int32 → Int32 → Int32 → zS → Option zS) × (Int32 → Int32 → zS → Option (Int64 × zS))
def DDGX0_addPlanned : Nat := 5
def okGX0_addPlanned (sc : Nat × (Nat → Int32)) (n : Nat) (g : TGX0_addPlanned) : Prop := (∀ (p1 : Int32) (p2 : Int32) (p3 : Int32) (σ : zS) (w : zS), g.1 p1 p2 p3 σ = some w → zC (zY0 sc) (DDGX0_addPlanned + n) 0 0 mX0_addPlanned [.ref 27, .int p1, .int p2, .int p3] (zE σ) (none, zE w)) ∧ (∀ (p1 : Int32) (p2 : Int32) (σ : zS) (w : Int64 × zS), g.2 p1 p2 σ = some w → zC (zY0 sc) (DDGX0_addPlanned + n) 0 0 mX0_bestFrom [.ref 27, .int p1, .int p2] (zE σ) (some (.long w.1), zE w.2))
theorem dX0_addPlanned_0 : decode cX0_addPlanned 0 = .ok (.aload_n 0, 1) := by decide +kernel
theorem dX0_addPlanned_1 : decode cX0_addPlanned 1 = .ok (.iload_n 1, 1) := by decide +kernel
theorem dX0_addPlanned_2 : decode cX0_addPlanned 2 = .ok (.invokevirtual 69, 3) := by decide +kernel
theorem dX0_addPlanned_5 : decode cX0_addPlanned 5 = .ok (.istore 4, 2) := by decide +kernel
theorem dX0_addPlanned_7 : decode cX0_addPlanned 7 = .ok (.aload_n 0, 1) := by decide +kernel
theorem dX0_addPlanned_8 : decode cX0_addPlanned 8 = .ok (.getfield 51, 3) := by decide +kernel
theorem dX0_addPlanned_11 : decode cX0_addPlanned 11 = .ok (.getfield 63, 3) := by decide +kernel
theorem dX0_addPlanned_14 : decode cX0_addPlanned 14 = .ok (.iload 4, 2) := by decide +kernel
theorem dX0_addPlanned_16 : decode cX0_addPlanned 16 = .ok (.iload_n 2, 1) := by decide +kernel
theorem dX0_addPlanned_17 : decode cX0_addPlanned 17 = .ok (.invokevirtual 108, 3) := by decide +kernel
theorem dX0_addPlanned_20 : decode cX0_addPlanned 20 = .ok (.istore 5, 2) := by decide +kernel
theorem dX0_addPlanned_22 : decode cX0_addPlanned 22 = .ok (.aload_n 0, 1) := by decide +kernel
theorem dX0_addPlanned_23 : decode cX0_addPlanned 23 = .ok (.getfield 51, 3) := by decide +kernel
theorem dX0_addPlanned_26 : decode cX0_addPlanned 26 = .ok (.getfield 63, 3) := by decide +kernel
theorem dX0_addPlanned_29 : decode cX0_addPlanned 29 = .ok (.iload 4, 2) := by decide +kernel
theorem dX0_addPlanned_31 : decode cX0_addPlanned 31 = .ok (.iload_n 2, 1) := by decide +kernel
theorem dX0_addPlanned_32 : decode cX0_addPlanned 32 = .ok (.invokevirtual 111, 3) := by decide +kernel
theorem dX0_addPlanned_35 : decode cX0_addPlanned 35 = .ok (.istore 6, 2) := by decide +kernel
theorem dX0_addPlanned_37 : decode cX0_addPlanned 37 = .ok (.iload_n 1, 1) := by decide +kernel
theorem dX0_addPlanned_38 : decode cX0_addPlanned 38 = .ok (.iconst 1, 1) := by decide +kernel
theorem dX0_addPlanned_39 : decode cX0_addPlanned 39 = .ok (.iadd, 1) := by decide +kernel
theorem dX0_addPlanned_40 : decode cX0_addPlanned 40 = .ok (.aload_n 0, 1) := by decide +kernel
theorem dX0_addPlanned_41 : decode cX0_addPlanned 41 = .ok (.getfield 25, 3) := by decide +kernel
theorem dX0_addPlanned_44 : decode cX0_addPlanned 44 = .ok (.if_icmp .ge 7, 3) := by decide +kernel
theorem dX0_addPlanned_47 : decode cX0_addPlanned 47 = .ok (.iconst 1, 1) := by decide +kernel
theorem dX0_addPlanned_48 : decode cX0_addPlanned 48 = .ok (.goto 4, 3) := by decide +kernel
theorem dX0_addPlanned_51 : decode cX0_addPlanned 51 = .ok (.iconst 0, 1) := by decide +kernel
theorem dX0_addPlanned_52 : decode cX0_addPlanned 52 = .ok (.istore 7, 2) := by decide +kernel
theorem dX0_addPlanned_54 : decode cX0_addPlanned 54 = .ok (.iconst 0, 1) := by decide +kernel
theorem dX0_addPlanned_55 : decode cX0_addPlanned 55 = .ok (.istore 8, 2) := by decide +kernel
theorem dX0_addPlanned_57 : decode cX0_addPlanned 57 = .ok (.iload 8, 2) := by decide +kernel
theorem dX0_addPlanned_59 : decode cX0_addPlanned 59 = .ok (.iload 5, 2) := by decide +kernel
theorem dX0_addPlanned_61 : decode cX0_addPlanned 61 = .ok (.iload_n 3, 1) := by decide +kernel
theorem dX0_addPlanned_62 : decode cX0_addPlanned 62 = .ok (.invokestatic 114, 3) := by decide +kernel
theorem dX0_addPlanned_65 : decode cX0_addPlanned 65 = .ok (.if_icmp .gt 97, 3) := by decide +kernel
theorem dX0_addPlanned_68 : decode cX0_addPlanned 68 = .ok (.aload_n 0, 1) := by decide +kernel
theorem dX0_addPlanned_69 : decode cX0_addPlanned 69 = .ok (.getfield 51, 3) := by decide +kernel
theorem dX0_addPlanned_72 : decode cX0_addPlanned 72 = .ok (.iload 4, 2) := by decide +kernel
theorem dX0_addPlanned_74 : decode cX0_addPlanned 74 = .ok (.iload 5, 2) := by decide +kernel
theorem dX0_addPlanned_76 : decode cX0_addPlanned 76 = .ok (.iload 8, 2) := by decide +kernel
theorem dX0_addPlanned_78 : decode cX0_addPlanned 78 = .ok (.iload_n 3, 1) := by decide +kernel
theorem dX0_addPlanned_79 : decode cX0_addPlanned 79 = .ok (.invokevirtual 119, 3) := by decide +kernel
theorem dX0_addPlanned_82 : decode cX0_addPlanned 82 = .ok (.i2l, 1) := by decide +kernel
theorem dX0_addPlanned_83 : decode cX0_addPlanned 83 = .ok (.aload_n 0, 1) := by decide +kernel
theorem dX0_addPlanned_84 : decode cX0_addPlanned 84 = .ok (.getfield 18, 3) := by decide +kernel
theorem dX0_addPlanned_87 : decode cX0_addPlanned 87 = .ok (.iload_n 1, 1) := by decide +kernel
theorem dX0_addPlanned_88 : decode cX0_addPlanned 88 = .ok (.iconst 1, 1) := by decide +kernel
theorem dX0_addPlanned_89 : decode cX0_addPlanned 89 = .ok (.iadd, 1) := by decide +kernel
theorem dX0_addPlanned_90 : decode cX0_addPlanned 90 = .ok (.invokestatic 59, 3) := by decide +kernel
theorem dX0_addPlanned_93 : decode cX0_addPlanned 93 = .ok (.lmul, 1) := by decide +kernel
theorem dX0_addPlanned_94 : decode cX0_addPlanned 94 = .ok (.lstore 9, 2) := by decide +kernel
theorem dX0_addPlanned_96 : decode cX0_addPlanned 96 = .ok (.iload 7, 2) := by decide +kernel
theorem dX0_addPlanned_98 : decode cX0_addPlanned 98 = .ok (.ifCond .eq 29, 3) := by decide +kernel
theorem dX0_addPlanned_101 : decode cX0_addPlanned 101 = .ok (.lload 9, 2) := by decide +kernel
theorem dX0_addPlanned_103 : decode cX0_addPlanned 103 = .ok (.aload_n 0, 1) := by decide +kernel
theorem dX0_addPlanned_104 : decode cX0_addPlanned 104 = .ok (.iload_n 1, 1) := by decide +kernel
theorem dX0_addPlanned_105 : decode cX0_addPlanned 105 = .ok (.iconst 1, 1) := by decide +kernel
theorem dX0_addPlanned_106 : decode cX0_addPlanned 106 = .ok (.iadd, 1) := by decide +kernel
theorem dX0_addPlanned_107 : decode cX0_addPlanned 107 = .ok (.aload_n 0, 1) := by decide +kernel
theorem dX0_addPlanned_108 : decode cX0_addPlanned 108 = .ok (.getfield 51, 3) := by decide +kernel
theorem dX0_addPlanned_111 : decode cX0_addPlanned 111 = .ok (.iload 4, 2) := by decide +kernel
theorem dX0_addPlanned_113 : decode cX0_addPlanned 113 = .ok (.iload 5, 2) := by decide +kernel
theorem dX0_addPlanned_115 : decode cX0_addPlanned 115 = .ok (.iload 8, 2) := by decide +kernel
theorem dX0_addPlanned_117 : decode cX0_addPlanned 117 = .ok (.iload_n 3, 1) := by decide +kernel
theorem dX0_addPlanned_118 : decode cX0_addPlanned 118 = .ok (.invokevirtual 123, 3) := by decide +kernel
theorem dX0_addPlanned_121 : decode cX0_addPlanned 121 = .ok (.invokevirtual 86, 3) := by decide +kernel
theorem dX0_addPlanned_124 : decode cX0_addPlanned 124 = .ok (.ladd, 1) := by decide +kernel
theorem dX0_addPlanned_125 : decode cX0_addPlanned 125 = .ok (.lstore 9, 2) := by decide +kernel
theorem dX0_addPlanned_127 : decode cX0_addPlanned 127 = .ok (.aload_n 0, 1) := by decide +kernel
theorem dX0_addPlanned_128 : decode cX0_addPlanned 128 = .ok (.iload_n 1, 1) := by decide +kernel
theorem dX0_addPlanned_129 : decode cX0_addPlanned 129 = .ok (.bipush 61, 2) := by decide +kernel
theorem dX0_addPlanned_131 : decode cX0_addPlanned 131 = .ok (.imul, 1) := by decide +kernel
theorem dX0_addPlanned_132 : decode cX0_addPlanned 132 = .ok (.iload 8, 2) := by decide +kernel
theorem dX0_addPlanned_134 : decode cX0_addPlanned 134 = .ok (.iload 8, 2) := by decide +kernel
theorem dX0_addPlanned_136 : decode cX0_addPlanned 136 = .ok (.iload 5, 2) := by decide +kernel
theorem dX0_addPlanned_138 : decode cX0_addPlanned 138 = .ok (.if_icmp .ne 7, 3) := by decide +kernel
theorem dX0_addPlanned_141 : decode cX0_addPlanned 141 = .ok (.iload_n 3, 1) := by decide +kernel
theorem dX0_addPlanned_142 : decode cX0_addPlanned 142 = .ok (.goto 5, 3) := by decide +kernel
theorem dX0_addPlanned_145 : decode cX0_addPlanned 145 = .ok (.iload 8, 2) := by decide +kernel
theorem dX0_addPlanned_147 : decode cX0_addPlanned 147 = .ok (.iload 6, 2) := by decide +kernel
theorem dX0_addPlanned_149 : decode cX0_addPlanned 149 = .ok (.i2l, 1) := by decide +kernel
theorem dX0_addPlanned_150 : decode cX0_addPlanned 150 = .ok (.lload 9, 2) := by decide +kernel
theorem dX0_addPlanned_152 : decode cX0_addPlanned 152 = .ok (.lmul, 1) := by decide +kernel
theorem dX0_addPlanned_153 : decode cX0_addPlanned 153 = .ok (.invokevirtual 126, 3) := by decide +kernel
theorem dX0_addPlanned_156 : decode cX0_addPlanned 156 = .ok (.iinc 8 1, 3) := by decide +kernel
theorem dX0_addPlanned_159 : decode cX0_addPlanned 159 = .ok (.goto (-102), 3) := by decide +kernel
theorem dX0_addPlanned_162 : decode cX0_addPlanned 162 = .ok (.return_, 1) := by decide +kernel
def fX0_addPlanned'_145 (g : TGX0_addPlanned) (r57 : Int32 → Int32 → Int32 → Int32 → Int32 → Int32 → Int32 → zS → Option zS) (x1 : Int32) (x3 : Int32) (x4 : Int32) (x5 : Int32) (x6 : Int32) (x7 : Int32) (x8 : Int32) (x9 : Int64) (s0 : Int32) (s1 : Int32) (s2 : Int32) (σ : zS) : Option zS := bnr (fX0_addToSeconds s2 s1 s0 (x6.toInt64 * x9) σ) fun σ11 => r57 x1 x3 x4 x5 x6 x7 (x8 + 1) σ11
theorem kX0_addPlanned_147 {sc : Nat × (Nat → Int32)} (g : TGX0_addPlanned) {n : Nat} (hg : okGX0_addPlanned sc n g) (r57 : Int32 → Int32 → Int32 → Int32 → Int32 → Int32 → Int32 → zS → Option zS) (hr57 : ∀ (x1 : Int32) (x3 : Int32) (x4 : Int32) (x5 : Int32) (x6 : Int32) (x7 : Int32) (x8 : Int32) (σ : zS) (w : zS), r57 x1 x3 x4 x5 x6 x7 x8 σ = some w → zR (zY0 sc) (DDGX0_addPlanned + n + 1) 0 0 mX0_addPlanned 57 [(0, .ref 27), (1, .int x1), (3, .int x3), (4, .int x4), (5, .int x5), (6, .int x6), (7, .int x7), (8, .int x8)] [] (zE σ) (none, zE w)) (x1 : Int32) (x3 : Int32) (x4 : Int32) (x5 : Int32) (x6 : Int32) (x7 : Int32) (x8 : Int32) (x9 : Int64) (s0 : Int32) (s1 : Int32) (s2 : Int32) (σ : zS) (w : zS) (h : fX0_addPlanned'_145 g r57 x1 x3 x4 x5 x6 x7 x8 x9 s0 s1 s2 σ = some w) : zR (zY0 sc) (DDGX0_addPlanned + n + 1) 0 0 mX0_addPlanned 147 [(0, .ref 27), (1, .int x1), (3, .int x3), (4, .int x4), (5, .int x5), (6, .int x6), (7, .int x7), (8, .int x8), (9, .long x9)] [.int s0, .int s1, .int s2, .ref 27] (zE σ) (none, zE w) := by
  unfold fX0_addPlanned'_145 at h
  refine kR.iload dX0_addPlanned_147 5 rfl ?_
  refine zR.i2l dX0_addPlanned_149 ?_
  refine kR.lload dX0_addPlanned_150 8 rfl ?_
  refine zR.lmul dX0_addPlanned_152 ?_
  obtain ⟨σ11, e12, h⟩ := bnr_some h
  refine kR.cVv [.int s2, .int s1, .int s0, .long (x6.toInt64 * x9)] dX0_addPlanned_153 rfl (by unfold DDGX0_addPlanned; omega) mwX0_126 zp27 (by decide) rfl rfl (Nat.le_of_ble_eq_true rfl) (lX0_addToSeconds s2 s1 s0 (x6.toInt64 * x9) σ _ e12) ?_
  refine zR.iinc 7 (v := x8 + 1) (ls' := [(8, .int (x8 + 1)), (0, .ref 27), (1, .int x1), (3, .int x3), (4, .int x4), (5, .int x5), (6, .int x6), (7, .int x7), (9, .long x9)]) dX0_addPlanned_156 rfl rfl (by decide) rfl ?_
  refine zR.goto (tgt := 57) dX0_addPlanned_159 (by decide) ?_
  refine zR.sub [1, 2, 3, 4, 5, 6, 7, 0] rfl ?_
  exact hr57 _ _ _ _ _ _ _ _ _ h
def fX0_addPlanned'_125 (g : TGX0_addPlanned) (r57 : Int32 → Int32 → Int32 → Int32 → Int32 → Int32 → Int32 → zS → Option zS) (x1 : Int32) (x3 : Int32) (x4 : Int32) (x5 : Int32) (x6 : Int32) (x7 : Int32) (x8 : Int32) (x9 : Int64) (σ : zS) : Option zS := if x8 = x5 then fX0_addPlanned'_145 g r57 x1 x3 x4 x5 x6 x7 x8 x9 x3 x8 (x1 * 61) σ else fX0_addPlanned'_145 g r57 x1 x3 x4 x5 x6 x7 x8 x9 x8 x8 (x1 * 61) σ
theorem kX0_addPlanned_127 {sc : Nat × (Nat → Int32)} (g : TGX0_addPlanned) {n : Nat} (hg : okGX0_addPlanned sc n g) (r57 : Int32 → Int32 → Int32 → Int32 → Int32 → Int32 → Int32 → zS → Option zS) (hr57 : ∀ (x1 : Int32) (x3 : Int32) (x4 : Int32) (x5 : Int32) (x6 : Int32) (x7 : Int32) (x8 : Int32) (σ : zS) (w : zS), r57 x1 x3 x4 x5 x6 x7 x8 σ = some w → zR (zY0 sc) (DDGX0_addPlanned + n + 1) 0 0 mX0_addPlanned 57 [(0, .ref 27), (1, .int x1), (3, .int x3), (4, .int x4), (5, .int x5), (6, .int x6), (7, .int x7), (8, .int x8)] [] (zE σ) (none, zE w)) (x1 : Int32) (x3 : Int32) (x4 : Int32) (x5 : Int32) (x6 : Int32) (x7 : Int32) (x8 : Int32) (x9 : Int64) (σ : zS) (w : zS) (h : fX0_addPlanned'_125 g r57 x1 x3 x4 x5 x6 x7 x8 x9 σ = some w) : zR (zY0 sc) (DDGX0_addPlanned + n + 1) 0 0 mX0_addPlanned 127 [(0, .ref 27), (1, .int x1), (3, .int x3), (4, .int x4), (5, .int x5), (6, .int x6), (7, .int x7), (8, .int x8), (9, .long x9)] [] (zE σ) (none, zE w) := by
  unfold fX0_addPlanned'_125 at h
  refine kR.aload_n dX0_addPlanned_127 0 rfl ?_
  refine kR.iload_n dX0_addPlanned_128 1 rfl ?_
  refine zR.bipush (v := 61) dX0_addPlanned_129 (by decide) ?_
  refine zR.imul dX0_addPlanned_131 ?_
  refine kR.iload dX0_addPlanned_132 7 rfl ?_
  refine kR.iload dX0_addPlanned_134 7 rfl ?_
  refine kR.iload dX0_addPlanned_136 4 rfl ?_
  refine kR.icmp_ne (tgt := 145) dX0_addPlanned_138 (by decide) h (fun h => ?_) (fun h => ?_)
  · refine kR.iload dX0_addPlanned_145 7 rfl ?_
    exact kX0_addPlanned_147 g hg r57 hr57 _ _ _ _ _ _ _ _ _ _ _ _ _ h
  · refine kR.iload_n dX0_addPlanned_141 2 rfl ?_
    refine zR.goto (tgt := 147) dX0_addPlanned_142 (by decide) ?_
    exact kX0_addPlanned_147 g hg r57 hr57 _ _ _ _ _ _ _ _ _ _ _ _ _ h
def fX0_addPlanned'_57 (g : TGX0_addPlanned) : Nat → Int32 → Int32 → Int32 → Int32 → Int32 → Int32 → Int32 → zS → Option zS
  | 0, _, _, _, _, _, _, _, _ => none
  | f + 1, x1, x3, x4, x5, x6, x7, x8, σ => if (fJ9_min_7cf53 x5 x3) < x8 then some σ else bnc (fX4_worthAlone x4 x5 x8 x3 σ) fun v9 σ7 => aL σ7 30 5 (x1 + 1) fun v10 => if x7 = 0 then fX0_addPlanned'_125 g (fX0_addPlanned'_57 g f) x1 x3 x4 x5 x6 x7 x8 (v9.toInt64 * v10) σ7 else bnc (fX4_tiredAlone x4 x5 x8 x3 σ7) fun v15 σ13 => bnc (g.2 (x1 + 1) v15 σ13) fun v18 σ16 => fX0_addPlanned'_125 g (fX0_addPlanned'_57 g f) x1 x3 x4 x5 x6 x7 x8 ((v9.toInt64 * v10) + v18) σ16
theorem kX0_addPlanned_57 {sc : Nat × (Nat → Int32)} (g : TGX0_addPlanned) {n : Nat} (hg : okGX0_addPlanned sc n g) : ∀ (fuel : Nat) (x1 : Int32) (x3 : Int32) (x4 : Int32) (x5 : Int32) (x6 : Int32) (x7 : Int32) (x8 : Int32) (σ : zS) (w : zS) (h : fX0_addPlanned'_57 g fuel x1 x3 x4 x5 x6 x7 x8 σ = some w), zR (zY0 sc) (DDGX0_addPlanned + n + 1) 0 0 mX0_addPlanned 57 [(0, .ref 27), (1, .int x1), (3, .int x3), (4, .int x4), (5, .int x5), (6, .int x6), (7, .int x7), (8, .int x8)] [] (zE σ) (none, zE w) := by
  intro fuel
  induction fuel with
  | zero => intro x1 x3 x4 x5 x6 x7 x8 σ w h; exact nomatch h
  | succ f ih =>
    intro x1 x3 x4 x5 x6 x7 x8 σ w h
    rw [fX0_addPlanned'_57] at h
    refine kR.iload dX0_addPlanned_57 7 rfl ?_
    refine kR.iload dX0_addPlanned_59 4 rfl ?_
    refine kR.iload_n dX0_addPlanned_61 2 rfl ?_
    refine kR.cSi [.int x5, .int x3] dX0_addPlanned_62 rfl (by unfold DDGX0_addPlanned; omega) (Or.inl mwX0_114) rfl (Nat.le_of_ble_eq_true rfl) (lJ9_min_7cf53 x5 x3) ?_
    refine kR.icmp_gt (tgt := 162) dX0_addPlanned_65 (by decide) h (fun h => ?_) (fun h => ?_)
    · exact kR.vret dX0_addPlanned_162 h
    · refine kR.aload_n dX0_addPlanned_68 0 rfl ?_
      refine kR.getR (v := 8) dX0_addPlanned_69 flX0_51 zcf0 zp27 (Or.inl ⟨_, rfl⟩) rfl ?_
      refine kR.iload dX0_addPlanned_72 3 rfl ?_
      refine kR.iload dX0_addPlanned_74 4 rfl ?_
      refine kR.iload dX0_addPlanned_76 7 rfl ?_
      refine kR.iload_n dX0_addPlanned_78 2 rfl ?_
      obtain ⟨v9, σ7, e8, h⟩ := bnc_some h
      refine kR.cVi [.int x4, .int x5, .int x8, .int x3] dX0_addPlanned_79 rfl (by unfold DDGX0_addPlanned; omega) mwX0_119 zp8 (by decide) rfl rfl (Nat.le_of_ble_eq_true rfl) (lX4_worthAlone x4 x5 x8 x3 σ _ e8) ?_
      refine zR.i2l dX0_addPlanned_82 ?_
      refine kR.aload_n dX0_addPlanned_83 0 rfl ?_
      refine kR.getR (v := 30) dX0_addPlanned_84 flX0_18 zcf0 zp27 (Or.inr ⟨_, rfl⟩) rfl ?_
      refine kR.iload_n dX0_addPlanned_87 1 rfl ?_
      refine zR.iconst (v := 1) dX0_addPlanned_88 (by decide) ?_
      refine zR.iadd dX0_addPlanned_89 ?_
      obtain ⟨v10, e0, h⟩ := aLv (Nat.le_of_ble_eq_true rfl) h
      refine kR.cSl [.ref 30, .int (x1 + 1)] dX0_addPlanned_90 rfl (by unfold DDGX0_addPlanned; omega) (Or.inr mwX0_59) rfl (Nat.le_of_ble_eq_true rfl) (lX10_valueAt_ 30 5 σ7 (fun _ => zp30) rfl (Nat.le_of_ble_eq_true rfl) (x1 + 1) _ e0) ?_
      refine zR.lmul dX0_addPlanned_93 ?_
      refine zR.lstore (i := 9) (ls' := [(9, .long (v9.toInt64 * v10)), (0, .ref 27), (1, .int x1), (3, .int x3), (4, .int x4), (5, .int x5), (6, .int x6), (7, .int x7), (8, .int x8)]) dX0_addPlanned_94 (by decide) rfl ?_
      refine kR.iload dX0_addPlanned_96 7 rfl ?_
      refine kR.if_eq (tgt := 127) dX0_addPlanned_98 (by decide) h (fun h => ?_) (fun h => ?_)
      · refine zR.sub [1, 2, 3, 4, 5, 6, 7, 8, 0] rfl ?_
        exact kX0_addPlanned_127 g hg (fX0_addPlanned'_57 g f) ih _ _ _ _ _ _ _ _ _ _ h
      · refine kR.lload dX0_addPlanned_101 0 rfl ?_
        refine kR.aload_n dX0_addPlanned_103 1 rfl ?_
        refine kR.iload_n dX0_addPlanned_104 2 rfl ?_
        refine zR.iconst (v := 1) dX0_addPlanned_105 (by decide) ?_
        refine zR.iadd dX0_addPlanned_106 ?_
        refine kR.aload_n dX0_addPlanned_107 1 rfl ?_
        refine kR.getR (v := 8) dX0_addPlanned_108 flX0_51 zcf0 zp27 (Or.inl ⟨_, rfl⟩) rfl ?_
        refine kR.iload dX0_addPlanned_111 4 rfl ?_
        refine kR.iload dX0_addPlanned_113 5 rfl ?_
        refine kR.iload dX0_addPlanned_115 8 rfl ?_
        refine kR.iload_n dX0_addPlanned_117 3 rfl ?_
        obtain ⟨v15, σ13, e14, h⟩ := bnc_some h
        refine kR.cVi [.int x4, .int x5, .int x8, .int x3] dX0_addPlanned_118 rfl (by unfold DDGX0_addPlanned; omega) mwX0_123 zp8 (by decide) rfl rfl (Nat.le_of_ble_eq_true rfl) (lX4_tiredAlone x4 x5 x8 x3 σ7 _ e14) ?_
        obtain ⟨v18, σ16, e17, h⟩ := bnc_some h
        refine kR.cVl [.int (x1 + 1), .int v15] dX0_addPlanned_121 rfl (Nat.le_refl _) mwX0_86 zp27 (by decide) rfl rfl (Nat.le_of_ble_eq_true rfl) (hg.2 (x1 + 1) v15 σ13 _ e17) ?_
        refine zR.ladd dX0_addPlanned_124 ?_
        refine zR.lstore (i := 9) (ls' := [(9, .long ((v9.toInt64 * v10) + v18)), (0, .ref 27), (1, .int x1), (3, .int x3), (4, .int x4), (5, .int x5), (6, .int x6), (7, .int x7), (8, .int x8)]) dX0_addPlanned_125 (by decide) rfl ?_
        refine zR.sub [1, 2, 3, 4, 5, 6, 7, 8, 0] rfl ?_
        exact kX0_addPlanned_127 g hg (fX0_addPlanned'_57 g f) ih _ _ _ _ _ _ _ _ _ _ h
def fX0_addPlanned'_52 (g : TGX0_addPlanned) (x1 : Int32) (x3 : Int32) (x4 : Int32) (x5 : Int32) (x6 : Int32) (s0 : Int32) (σ : zS) : Option zS := fX0_addPlanned'_57 g zF x1 x3 x4 x5 x6 s0 0 σ
theorem kX0_addPlanned_52 {sc : Nat × (Nat → Int32)} (g : TGX0_addPlanned) {n : Nat} (hg : okGX0_addPlanned sc n g) (x1 : Int32) (x3 : Int32) (x4 : Int32) (x5 : Int32) (x6 : Int32) (s0 : Int32) (σ : zS) (w : zS) (h : fX0_addPlanned'_52 g x1 x3 x4 x5 x6 s0 σ = some w) : zR (zY0 sc) (DDGX0_addPlanned + n + 1) 0 0 mX0_addPlanned 52 [(0, .ref 27), (1, .int x1), (3, .int x3), (4, .int x4), (5, .int x5), (6, .int x6)] [.int s0] (zE σ) (none, zE w) := by
  unfold fX0_addPlanned'_52 at h
  refine zR.istore (i := 7) (ls' := [(7, .int s0), (0, .ref 27), (1, .int x1), (3, .int x3), (4, .int x4), (5, .int x5), (6, .int x6)]) dX0_addPlanned_52 (by decide) rfl ?_
  refine zR.iconst (v := 0) dX0_addPlanned_54 (by decide) ?_
  refine zR.istore (i := 8) (ls' := [(8, .int 0), (7, .int s0), (0, .ref 27), (1, .int x1), (3, .int x3), (4, .int x4), (5, .int x5), (6, .int x6)]) dX0_addPlanned_55 (by decide) rfl ?_
  refine zR.sub [2, 3, 4, 5, 6, 7, 1, 0] rfl ?_
  exact kX0_addPlanned_57 g hg zF _ _ _ _ _ _ _ _ _ h
def fX0_addPlanned' (g : TGX0_addPlanned) (p1 : Int32) (p2 : Int32) (p3 : Int32) (σ : zS) : Option zS := bnr (fX0_tunnelAt σ p1) fun v1 => bnr (fX6_lengthAt σ.2.2.2.1 σ v1 p2) fun v3 => bnr (fX6_weightAt σ.2.2.2.1 σ v1 p2) fun v5 => if (iG σ 27 5) ≤ (p1 + 1) then fX0_addPlanned'_52 g p1 p3 v1 v3 v5 0 σ else fX0_addPlanned'_52 g p1 p3 v1 v3 v5 1 σ
theorem eX0_addPlanned {sc : Nat × (Nat → Int32)} (g : TGX0_addPlanned) {n : Nat} (hg : okGX0_addPlanned sc n g) (p1 : Int32) (p2 : Int32) (p3 : Int32) (σ : zS) (w : zS) (h : fX0_addPlanned' g p1 p2 p3 σ = some w) : zR (zY0 sc) (DDGX0_addPlanned + n + 1) 0 0 mX0_addPlanned 0 [(0, .ref 27), (1, .int p1), (2, .int p2), (3, .int p3)] [] (zE σ) (none, zE w) := by
  unfold fX0_addPlanned' at h
  refine kR.aload_n dX0_addPlanned_0 0 rfl ?_
  refine kR.iload_n dX0_addPlanned_1 1 rfl ?_
  obtain ⟨v1, e2, h⟩ := bnr_some h
  refine kR.cVi [.int p1] dX0_addPlanned_2 rfl (by unfold DDGX0_addPlanned; omega) mwX0_69 zp27 (by decide) rfl rfl (Nat.le_of_ble_eq_true rfl) (lX0_tunnelAt σ p1 _ e2) ?_
  refine zR.istore (i := 4) (ls' := [(4, .int v1), (0, .ref 27), (1, .int p1), (2, .int p2), (3, .int p3)]) dX0_addPlanned_5 (by decide) rfl ?_
  refine kR.aload_n dX0_addPlanned_7 1 rfl ?_
  refine kR.getR (v := 8) dX0_addPlanned_8 flX0_51 zcf0 zp27 (Or.inl ⟨_, rfl⟩) rfl ?_
  refine kR.getR (v := (rp σ.2.2.2.1 + 0)) dX0_addPlanned_11 flX0_63 zcf4 zp8 (Or.inl ⟨_, rfl⟩) rfl ?_
  refine kR.iload dX0_addPlanned_14 0 rfl ?_
  refine kR.iload_n dX0_addPlanned_16 3 rfl ?_
  obtain ⟨v3, e4, h⟩ := bnr_some h
  refine kR.cVi [.int v1, .int p2] dX0_addPlanned_17 rfl (by unfold DDGX0_addPlanned; omega) mwX0_108 (zq0 σ.2.2.2.1) (by decide) rfl rfl (Nat.le_of_ble_eq_true rfl) (lX6_lengthAt σ.2.2.2.1 σ v1 p2 _ e4) ?_
  refine zR.istore (i := 5) (ls' := [(5, .int v3), (4, .int v1), (0, .ref 27), (1, .int p1), (2, .int p2), (3, .int p3)]) dX0_addPlanned_20 (by decide) rfl ?_
  refine kR.aload_n dX0_addPlanned_22 2 rfl ?_
  refine kR.getR (v := 8) dX0_addPlanned_23 flX0_51 zcf0 zp27 (Or.inl ⟨_, rfl⟩) rfl ?_
  refine kR.getR (v := (rp σ.2.2.2.1 + 0)) dX0_addPlanned_26 flX0_63 zcf4 zp8 (Or.inl ⟨_, rfl⟩) rfl ?_
  refine kR.iload dX0_addPlanned_29 1 rfl ?_
  refine kR.iload_n dX0_addPlanned_31 4 rfl ?_
  obtain ⟨v5, e6, h⟩ := bnr_some h
  refine kR.cVi [.int v1, .int p2] dX0_addPlanned_32 rfl (by unfold DDGX0_addPlanned; omega) mwX0_111 (zq0 σ.2.2.2.1) (by decide) rfl rfl (Nat.le_of_ble_eq_true rfl) (lX6_weightAt σ.2.2.2.1 σ v1 p2 _ e6) ?_
  refine zR.istore (i := 6) (ls' := [(6, .int v5), (5, .int v3), (4, .int v1), (0, .ref 27), (1, .int p1), (2, .int p2), (3, .int p3)]) dX0_addPlanned_35 (by decide) rfl ?_
  refine kR.iload_n dX0_addPlanned_37 4 rfl ?_
  refine zR.iconst (v := 1) dX0_addPlanned_38 (by decide) ?_
  refine zR.iadd dX0_addPlanned_39 ?_
  refine kR.aload_n dX0_addPlanned_40 3 rfl ?_
  refine kR.getI dX0_addPlanned_41 flX0_25 zcf0 zp27 (Or.inl rfl) ?_
  refine kR.icmp_ge (tgt := 51) dX0_addPlanned_44 (by decide) h (fun h => ?_) (fun h => ?_)
  · refine zR.iconst (v := 0) dX0_addPlanned_51 (by decide) ?_
    refine zR.sub [3, 4, 6, 2, 1, 0] rfl ?_
    exact kX0_addPlanned_52 g hg _ _ _ _ _ _ _ _ h
  · refine zR.iconst (v := 1) dX0_addPlanned_47 (by decide) ?_
    refine zR.goto (tgt := 52) dX0_addPlanned_48 (by decide) ?_
    refine zR.sub [3, 4, 6, 2, 1, 0] rfl ?_
    exact kX0_addPlanned_52 g hg _ _ _ _ _ _ _ _ h
theorem lX0_addPlanned' {sc : Nat × (Nat → Int32)} (g : TGX0_addPlanned) {n : Nat} (hg : okGX0_addPlanned sc n g) (p1 : Int32) (p2 : Int32) (p3 : Int32) (σ : zS) (w : zS) (h : fX0_addPlanned' g p1 p2 p3 σ = some w) : zC (zY0 sc) (DDGX0_addPlanned + n + 1) 0 0 mX0_addPlanned [.ref 27, .int p1, .int p2, .int p3] (zE σ) (none, zE w) := zC.of (by decide +kernel) (Nat.le_of_ble_eq_true rfl) rfl (eX0_addPlanned g hg p1 p2 p3 σ w h)
theorem dX0_bestFrom_0 : decode cX0_bestFrom 0 = .ok (.iload_n 1, 1) := by decide +kernel
theorem dX0_bestFrom_1 : decode cX0_bestFrom 1 = .ok (.aload_n 0, 1) := by decide +kernel
theorem dX0_bestFrom_2 : decode cX0_bestFrom 2 = .ok (.getfield 25, 3) := by decide +kernel
theorem dX0_bestFrom_5 : decode cX0_bestFrom 5 = .ok (.if_icmp .lt 5, 3) := by decide +kernel
theorem dX0_bestFrom_8 : decode cX0_bestFrom 8 = .ok (.lconst 0, 1) := by decide +kernel
theorem dX0_bestFrom_9 : decode cX0_bestFrom 9 = .ok (.lreturn, 1) := by decide +kernel
theorem dX0_bestFrom_10 : decode cX0_bestFrom 10 = .ok (.iload_n 1, 1) := by decide +kernel
theorem dX0_bestFrom_11 : decode cX0_bestFrom 11 = .ok (.bipush 61, 2) := by decide +kernel
theorem dX0_bestFrom_13 : decode cX0_bestFrom 13 = .ok (.imul, 1) := by decide +kernel
theorem dX0_bestFrom_14 : decode cX0_bestFrom 14 = .ok (.istore_n 3, 1) := by decide +kernel
theorem dX0_bestFrom_15 : decode cX0_bestFrom 15 = .ok (.aload_n 0, 1) := by decide +kernel
theorem dX0_bestFrom_16 : decode cX0_bestFrom 16 = .ok (.getfield 15, 3) := by decide +kernel
theorem dX0_bestFrom_19 : decode cX0_bestFrom 19 = .ok (.iload_n 3, 1) := by decide +kernel
theorem dX0_bestFrom_20 : decode cX0_bestFrom 20 = .ok (.iload_n 2, 1) := by decide +kernel
theorem dX0_bestFrom_21 : decode cX0_bestFrom 21 = .ok (.iadd, 1) := by decide +kernel
theorem dX0_bestFrom_22 : decode cX0_bestFrom 22 = .ok (.invokestatic 59, 3) := by decide +kernel
theorem dX0_bestFrom_25 : decode cX0_bestFrom 25 = .ok (.ldc2_w 78, 3) := by decide +kernel
theorem dX0_bestFrom_28 : decode cX0_bestFrom 28 = .ok (.lcmp, 1) := by decide +kernel
theorem dX0_bestFrom_29 : decode cX0_bestFrom 29 = .ok (.ifCond .ne 74, 3) := by decide +kernel
theorem dX0_bestFrom_32 : decode cX0_bestFrom 32 = .ok (.aload_n 0, 1) := by decide +kernel
theorem dX0_bestFrom_33 : decode cX0_bestFrom 33 = .ok (.iload_n 3, 1) := by decide +kernel
theorem dX0_bestFrom_34 : decode cX0_bestFrom 34 = .ok (.invokevirtual 97, 3) := by decide +kernel
theorem dX0_bestFrom_37 : decode cX0_bestFrom 37 = .ok (.aload_n 0, 1) := by decide +kernel
theorem dX0_bestFrom_38 : decode cX0_bestFrom 38 = .ok (.getfield 51, 3) := by decide +kernel
theorem dX0_bestFrom_41 : decode cX0_bestFrom 41 = .ok (.getfield 63, 3) := by decide +kernel
theorem dX0_bestFrom_44 : decode cX0_bestFrom 44 = .ok (.aload_n 0, 1) := by decide +kernel
theorem dX0_bestFrom_45 : decode cX0_bestFrom 45 = .ok (.iload_n 1, 1) := by decide +kernel
theorem dX0_bestFrom_46 : decode cX0_bestFrom 46 = .ok (.invokevirtual 69, 3) := by decide +kernel
theorem dX0_bestFrom_49 : decode cX0_bestFrom 49 = .ok (.invokevirtual 101, 3) := by decide +kernel
theorem dX0_bestFrom_52 : decode cX0_bestFrom 52 = .ok (.istore 4, 2) := by decide +kernel
theorem dX0_bestFrom_54 : decode cX0_bestFrom 54 = .ok (.iconst 0, 1) := by decide +kernel
theorem dX0_bestFrom_55 : decode cX0_bestFrom 55 = .ok (.istore 5, 2) := by decide +kernel
theorem dX0_bestFrom_57 : decode cX0_bestFrom 57 = .ok (.iload 5, 2) := by decide +kernel
theorem dX0_bestFrom_59 : decode cX0_bestFrom 59 = .ok (.iload 4, 2) := by decide +kernel
theorem dX0_bestFrom_61 : decode cX0_bestFrom 61 = .ok (.if_icmp .ge 17, 3) := by decide +kernel
theorem dX0_bestFrom_64 : decode cX0_bestFrom 64 = .ok (.aload_n 0, 1) := by decide +kernel
theorem dX0_bestFrom_65 : decode cX0_bestFrom 65 = .ok (.iload_n 1, 1) := by decide +kernel
theorem dX0_bestFrom_66 : decode cX0_bestFrom 66 = .ok (.iload 5, 2) := by decide +kernel
theorem dX0_bestFrom_68 : decode cX0_bestFrom 68 = .ok (.iload_n 2, 1) := by decide +kernel
theorem dX0_bestFrom_69 : decode cX0_bestFrom 69 = .ok (.invokevirtual 104, 3) := by decide +kernel
theorem dX0_bestFrom_72 : decode cX0_bestFrom 72 = .ok (.iinc 5 1, 3) := by decide +kernel
theorem dX0_bestFrom_75 : decode cX0_bestFrom 75 = .ok (.goto (-18), 3) := by decide +kernel
theorem dX0_bestFrom_78 : decode cX0_bestFrom 78 = .ok (.aload_n 0, 1) := by decide +kernel
theorem dX0_bestFrom_79 : decode cX0_bestFrom 79 = .ok (.getfield 15, 3) := by decide +kernel
theorem dX0_bestFrom_82 : decode cX0_bestFrom 82 = .ok (.iload_n 3, 1) := by decide +kernel
theorem dX0_bestFrom_83 : decode cX0_bestFrom 83 = .ok (.iload_n 2, 1) := by decide +kernel
theorem dX0_bestFrom_84 : decode cX0_bestFrom 84 = .ok (.iadd, 1) := by decide +kernel
theorem dX0_bestFrom_85 : decode cX0_bestFrom 85 = .ok (.aload_n 0, 1) := by decide +kernel
theorem dX0_bestFrom_86 : decode cX0_bestFrom 86 = .ok (.getfield 9, 3) := by decide +kernel
theorem dX0_bestFrom_89 : decode cX0_bestFrom 89 = .ok (.iload_n 3, 1) := by decide +kernel
theorem dX0_bestFrom_90 : decode cX0_bestFrom 90 = .ok (.aload_n 0, 1) := by decide +kernel
theorem dX0_bestFrom_91 : decode cX0_bestFrom 91 = .ok (.iload_n 3, 1) := by decide +kernel
theorem dX0_bestFrom_92 : decode cX0_bestFrom 92 = .ok (.iload_n 2, 1) := by decide +kernel
theorem dX0_bestFrom_93 : decode cX0_bestFrom 93 = .ok (.invokevirtual 90, 3) := by decide +kernel
theorem dX0_bestFrom_96 : decode cX0_bestFrom 96 = .ok (.iadd, 1) := by decide +kernel
theorem dX0_bestFrom_97 : decode cX0_bestFrom 97 = .ok (.invokestatic 59, 3) := by decide +kernel
theorem dX0_bestFrom_100 : decode cX0_bestFrom 100 = .ok (.invokestatic 55, 3) := by decide +kernel
theorem dX0_bestFrom_103 : decode cX0_bestFrom 103 = .ok (.aload_n 0, 1) := by decide +kernel
theorem dX0_bestFrom_104 : decode cX0_bestFrom 104 = .ok (.getfield 15, 3) := by decide +kernel
theorem dX0_bestFrom_107 : decode cX0_bestFrom 107 = .ok (.iload_n 3, 1) := by decide +kernel
theorem dX0_bestFrom_108 : decode cX0_bestFrom 108 = .ok (.iload_n 2, 1) := by decide +kernel
theorem dX0_bestFrom_109 : decode cX0_bestFrom 109 = .ok (.iadd, 1) := by decide +kernel
theorem dX0_bestFrom_110 : decode cX0_bestFrom 110 = .ok (.invokestatic 59, 3) := by decide +kernel
theorem dX0_bestFrom_113 : decode cX0_bestFrom 113 = .ok (.lreturn, 1) := by decide +kernel
def fX0_bestFrom'_106 (g : TGX0_addPlanned) (x2 : Int32) (x3 : Int32) (σ : zS) : Option (Int64 × zS) := aL σ 29 244 (x3 + x2) fun v2 => some (v2, σ)
theorem kX0_bestFrom_103 {sc : Nat × (Nat → Int32)} (g : TGX0_addPlanned) {n : Nat} (hg : okGX0_addPlanned sc n g) (x2 : Int32) (x3 : Int32) (σ : zS) (w : Int64 × zS) (h : fX0_bestFrom'_106 g x2 x3 σ = some w) : zR (zY0 sc) (DDGX0_addPlanned + n + 1) 0 0 mX0_bestFrom 103 [(0, .ref 27), (2, .int x2), (3, .int x3)] [] (zE σ) (some (.long w.1), zE w.2) := by
  unfold fX0_bestFrom'_106 at h
  refine kR.aload_n dX0_bestFrom_103 0 rfl ?_
  refine kR.getR (v := 29) dX0_bestFrom_104 flX0_15 zcf0 zp27 (Or.inr ⟨_, rfl⟩) rfl ?_
  refine kR.iload_n dX0_bestFrom_107 2 rfl ?_
  refine kR.iload_n dX0_bestFrom_108 1 rfl ?_
  refine zR.iadd dX0_bestFrom_109 ?_
  obtain ⟨v2, e0, h⟩ := aLv (Nat.le_of_ble_eq_true rfl) h
  refine kR.cSl [.ref 29, .int (x3 + x2)] dX0_bestFrom_110 rfl (by unfold DDGX0_addPlanned; omega) (Or.inr mwX0_59) rfl (Nat.le_of_ble_eq_true rfl) (lX10_valueAt_ 29 244 σ (fun _ => zp29) rfl (Nat.le_of_ble_eq_true rfl) (x3 + x2) _ e0) ?_
  exact kR.lretW dX0_bestFrom_113 h
def fX0_bestFrom'_64 (g : TGX0_addPlanned) : Nat → Int32 → Int32 → Int32 → Int32 → Int32 → zS → Option (Int64 × zS)
  | 0, _, _, _, _, _, _ => none
  | f + 1, x1, x2, x3, x4, x5, σ => if x4 ≤ x5 then bnr (fX0_bestSecond σ x3 x2) fun v8 => aL σ 28 244 (x3 + v8) fun v10 => wL σ 29 244 (x3 + x2) v10 fun σ11 => fX0_bestFrom'_106 g x2 x3 σ11 else bnr (g.1 x1 x5 x2 σ) fun σ12 => fX0_bestFrom'_64 g f x1 x2 x3 x4 (x5 + 1) σ12
theorem kX0_bestFrom_57 {sc : Nat × (Nat → Int32)} (g : TGX0_addPlanned) {n : Nat} (hg : okGX0_addPlanned sc n g) : ∀ (fuel : Nat) (x1 : Int32) (x2 : Int32) (x3 : Int32) (x4 : Int32) (x5 : Int32) (σ : zS) (w : Int64 × zS) (h : fX0_bestFrom'_64 g fuel x1 x2 x3 x4 x5 σ = some w), zR (zY0 sc) (DDGX0_addPlanned + n + 1) 0 0 mX0_bestFrom 57 [(0, .ref 27), (1, .int x1), (2, .int x2), (3, .int x3), (4, .int x4), (5, .int x5)] [] (zE σ) (some (.long w.1), zE w.2) := by
  intro fuel
  induction fuel with
  | zero => intro x1 x2 x3 x4 x5 σ w h; exact nomatch h
  | succ f ih =>
    intro x1 x2 x3 x4 x5 σ w h
    rw [fX0_bestFrom'_64] at h
    refine kR.iload dX0_bestFrom_57 5 rfl ?_
    refine kR.iload dX0_bestFrom_59 4 rfl ?_
    refine kR.icmp_ge (tgt := 78) dX0_bestFrom_61 (by decide) h (fun h => ?_) (fun h => ?_)
    · refine kR.aload_n dX0_bestFrom_78 0 rfl ?_
      refine kR.getR (v := 29) dX0_bestFrom_79 flX0_15 zcf0 zp27 (Or.inr ⟨_, rfl⟩) rfl ?_
      refine kR.iload_n dX0_bestFrom_82 3 rfl ?_
      refine kR.iload_n dX0_bestFrom_83 2 rfl ?_
      refine zR.iadd dX0_bestFrom_84 ?_
      refine kR.aload_n dX0_bestFrom_85 0 rfl ?_
      refine kR.getR (v := 28) dX0_bestFrom_86 flX0_9 zcf0 zp27 (Or.inr ⟨_, rfl⟩) rfl ?_
      refine kR.iload_n dX0_bestFrom_89 3 rfl ?_
      refine kR.aload_n dX0_bestFrom_90 0 rfl ?_
      refine kR.iload_n dX0_bestFrom_91 3 rfl ?_
      refine kR.iload_n dX0_bestFrom_92 2 rfl ?_
      obtain ⟨v8, e9, h⟩ := bnr_some h
      refine kR.cVi [.int x3, .int x2] dX0_bestFrom_93 rfl (by unfold DDGX0_addPlanned; omega) mwX0_90 zp27 (by decide) rfl rfl (Nat.le_of_ble_eq_true rfl) (lX0_bestSecond σ x3 x2 _ e9) ?_
      refine zR.iadd dX0_bestFrom_96 ?_
      obtain ⟨v10, e0, h⟩ := aLv (Nat.le_of_ble_eq_true rfl) h
      refine kR.cSl [.ref 28, .int (x3 + v8)] dX0_bestFrom_97 rfl (by unfold DDGX0_addPlanned; omega) (Or.inr mwX0_59) rfl (Nat.le_of_ble_eq_true rfl) (lX10_valueAt_ 28 244 σ (fun _ => zp28) rfl (Nat.le_of_ble_eq_true rfl) (x3 + v8) _ e0) ?_
      obtain ⟨σ11, e0, h⟩ := wLv (Nat.le_of_ble_eq_true rfl) h
      refine kR.cSv [.ref 29, .int (x3 + x2), .long v10] dX0_bestFrom_100 rfl (by unfold DDGX0_addPlanned; omega) (Or.inr mwX0_55) rfl (Nat.le_of_ble_eq_true rfl) (lX10_setAt_ 29 244 (fun _ => zp29) rfl (Nat.le_of_ble_eq_true rfl) (x3 + x2) v10 σ _ e0) ?_
      refine zR.sub [0, 2, 3] rfl ?_
      exact kX0_bestFrom_103 g hg _ _ _ _ h
    · refine kR.aload_n dX0_bestFrom_64 0 rfl ?_
      refine kR.iload_n dX0_bestFrom_65 1 rfl ?_
      refine kR.iload dX0_bestFrom_66 5 rfl ?_
      refine kR.iload_n dX0_bestFrom_68 2 rfl ?_
      obtain ⟨σ12, e13, h⟩ := bnr_some h
      refine kR.cVv [.int x1, .int x5, .int x2] dX0_bestFrom_69 rfl (Nat.le_refl _) mwX0_104 zp27 (by decide) rfl rfl (Nat.le_of_ble_eq_true rfl) (hg.1 x1 x5 x2 σ _ e13) ?_
      refine zR.iinc 5 (v := x5 + 1) (ls' := [(5, .int (x5 + 1)), (0, .ref 27), (1, .int x1), (2, .int x2), (3, .int x3), (4, .int x4)]) dX0_bestFrom_72 rfl rfl (by decide) rfl ?_
      refine zR.goto (tgt := 57) dX0_bestFrom_75 (by decide) ?_
      refine zR.sub [1, 2, 3, 4, 5, 0] rfl ?_
      exact ih _ _ _ _ _ _ _ h
def fX0_bestFrom' (g : TGX0_addPlanned) (p1 : Int32) (p2 : Int32) (σ : zS) : Option (Int64 × zS) := if p1 < (iG σ 27 5) then aL σ 29 244 ((p1 * 61) + p2) fun v1 => if v1 = ((-1000000000000000)) then bnr (fJ7_fill_bad5a 28 244 (p1 * 61) ((p1 * 61) + 61) 0 σ) fun σ3 => bnr (fX0_tunnelAt σ3 p1) fun v5 => aI σ3 (rp σ3.2.2.2.1 + 3) 6 v5 fun v7 => fX0_bestFrom'_64 g zF p1 p2 (p1 * 61) v7 0 σ3 else fX0_bestFrom'_106 g p2 (p1 * 61) σ else some (0, σ)
theorem eX0_bestFrom {sc : Nat × (Nat → Int32)} (g : TGX0_addPlanned) {n : Nat} (hg : okGX0_addPlanned sc n g) (p1 : Int32) (p2 : Int32) (σ : zS) (w : Int64 × zS) (h : fX0_bestFrom' g p1 p2 σ = some w) : zR (zY0 sc) (DDGX0_addPlanned + n + 1) 0 0 mX0_bestFrom 0 [(0, .ref 27), (1, .int p1), (2, .int p2)] [] (zE σ) (some (.long w.1), zE w.2) := by
  unfold fX0_bestFrom' at h
  refine kR.iload_n dX0_bestFrom_0 1 rfl ?_
  refine kR.aload_n dX0_bestFrom_1 0 rfl ?_
  refine kR.getI dX0_bestFrom_2 flX0_25 zcf0 zp27 (Or.inl rfl) ?_
  refine kR.icmp_lt (tgt := 10) dX0_bestFrom_5 (by decide) h (fun h => ?_) (fun h => ?_)
  · refine kR.iload_n dX0_bestFrom_10 1 rfl ?_
    refine zR.bipush (v := 61) dX0_bestFrom_11 (by decide) ?_
    refine zR.imul dX0_bestFrom_13 ?_
    refine zR.istore_n (i := 3) (ls' := [(3, .int (p1 * 61)), (0, .ref 27), (1, .int p1), (2, .int p2)]) dX0_bestFrom_14 rfl (by decide) rfl ?_
    refine kR.aload_n dX0_bestFrom_15 1 rfl ?_
    refine kR.getR (v := 29) dX0_bestFrom_16 flX0_15 zcf0 zp27 (Or.inr ⟨_, rfl⟩) rfl ?_
    refine kR.iload_n dX0_bestFrom_19 0 rfl ?_
    refine kR.iload_n dX0_bestFrom_20 3 rfl ?_
    refine zR.iadd dX0_bestFrom_21 ?_
    obtain ⟨v1, e0, h⟩ := aLv (Nat.le_of_ble_eq_true rfl) h
    refine kR.cSl [.ref 29, .int ((p1 * 61) + p2)] dX0_bestFrom_22 rfl (by unfold DDGX0_addPlanned; omega) (Or.inr mwX0_59) rfl (Nat.le_of_ble_eq_true rfl) (lX10_valueAt_ 29 244 σ (fun _ => zp29) rfl (Nat.le_of_ble_eq_true rfl) ((p1 * 61) + p2) _ e0) ?_
    refine zR.ldc2 (v := (-1000000000000000)) dX0_bestFrom_25 clX0_78 ?_
    refine kR.lcmp_ne (tgt := 103) dX0_bestFrom_28 dX0_bestFrom_29 (by decide) h (fun h => ?_) (fun h => ?_)
    · refine zR.sub [1, 3, 0] rfl ?_
      exact kX0_bestFrom_103 g hg _ _ _ _ h
    · refine kR.aload_n dX0_bestFrom_32 1 rfl ?_
      refine kR.iload_n dX0_bestFrom_33 0 rfl ?_
      obtain ⟨σ3, e4, h⟩ := bnr_some h
      refine kR.cVv [.int (p1 * 61)] dX0_bestFrom_34 rfl (by unfold DDGX0_addPlanned; omega) mwX0_97 zp27 (by decide) rfl rfl (Nat.le_of_ble_eq_true rfl) (lX0_clearTotals (p1 * 61) σ _ (clear_fill e4)) ?_
      refine kR.aload_n dX0_bestFrom_37 1 rfl ?_
      refine kR.getR (v := 8) dX0_bestFrom_38 flX0_51 zcf0 zp27 (Or.inl ⟨_, rfl⟩) rfl ?_
      refine kR.getR (v := (rp σ3.2.2.2.1 + 0)) dX0_bestFrom_41 flX0_63 zcf4 zp8 (Or.inl ⟨_, rfl⟩) rfl ?_
      refine kR.aload_n dX0_bestFrom_44 1 rfl ?_
      refine kR.iload_n dX0_bestFrom_45 2 rfl ?_
      obtain ⟨v5, e6, h⟩ := bnr_some h
      refine kR.cVi [.int p1] dX0_bestFrom_46 rfl (by unfold DDGX0_addPlanned; omega) mwX0_69 zp27 (by decide) rfl rfl (Nat.le_of_ble_eq_true rfl) (lX0_tunnelAt σ3 p1 _ e6) ?_
      obtain ⟨v7, e0, h⟩ := aIlc h
      refine kR.cVi [.int v5] dX0_bestFrom_49 rfl (by unfold DDGX0_addPlanned; omega) mwX0_101 (zq0 σ3.2.2.2.1) (by decide) rfl rfl (Nat.le_of_ble_eq_true rfl) (lX6_lengthCount σ3.2.2.2.1 σ3 v5 _ e0) ?_
      refine zR.istore (i := 4) (ls' := [(4, .int v7), (3, .int (p1 * 61)), (0, .ref 27), (1, .int p1), (2, .int p2)]) dX0_bestFrom_52 (by decide) rfl ?_
      refine zR.iconst (v := 0) dX0_bestFrom_54 (by decide) ?_
      refine zR.istore (i := 5) (ls' := [(5, .int 0), (4, .int v7), (3, .int (p1 * 61)), (0, .ref 27), (1, .int p1), (2, .int p2)]) dX0_bestFrom_55 (by decide) rfl ?_
      refine zR.sub [3, 4, 5, 2, 1, 0] rfl ?_
      exact kX0_bestFrom_57 g hg zF _ _ _ _ _ _ _ h
  · refine zR.lconst (v := 0) dX0_bestFrom_8 (by decide) ?_
    exact kR.lretW dX0_bestFrom_9 h
theorem lX0_bestFrom' {sc : Nat × (Nat → Int32)} (g : TGX0_addPlanned) {n : Nat} (hg : okGX0_addPlanned sc n g) (p1 : Int32) (p2 : Int32) (σ : zS) (w : Int64 × zS) (h : fX0_bestFrom' g p1 p2 σ = some w) : zC (zY0 sc) (DDGX0_addPlanned + n + 1) 0 0 mX0_bestFrom [.ref 27, .int p1, .int p2] (zE σ) (some (.long w.1), zE w.2) := zC.of (by decide +kernel) (Nat.le_of_ble_eq_true rfl) rfl (eX0_bestFrom g hg p1 p2 σ w h)
def ggGX0_addPlanned : Nat → TGX0_addPlanned
  | 0 => (fun _ _ _ _ => none, fun _ _ _ => none)
  | n + 1 => (fX0_addPlanned' (ggGX0_addPlanned n), fX0_bestFrom' (ggGX0_addPlanned n))
theorem gokGX0_addPlanned (sc : Nat × (Nat → Int32)) : ∀ n, okGX0_addPlanned sc n (ggGX0_addPlanned n)
  | 0 => ⟨fun _ _ _ _ _ h => (nomatch h), fun _ _ _ _ h => (nomatch h)⟩
  | n + 1 => ⟨fun p1 p2 p3 σ w h => lX0_addPlanned' (ggGX0_addPlanned n) (gokGX0_addPlanned sc n) p1 p2 p3 σ w h, fun p1 p2 σ w h => lX0_bestFrom' (ggGX0_addPlanned n) (gokGX0_addPlanned sc n) p1 p2 σ w h⟩
def fX0_addPlanned (n : Nat) (p1 : Int32) (p2 : Int32) (p3 : Int32) (σ : zS) : Option zS := (ggGX0_addPlanned n).1 p1 p2 p3 σ
theorem lX0_addPlanned {sc : Nat × (Nat → Int32)} (n : Nat) (p1 : Int32) (p2 : Int32) (p3 : Int32) (σ : zS) (w : zS) (h : fX0_addPlanned n p1 p2 p3 σ = some w) : zC (zY0 sc) (DDGX0_addPlanned + n) 0 0 mX0_addPlanned [.ref 27, .int p1, .int p2, .int p3] (zE σ) (none, zE w) := (gokGX0_addPlanned sc n).1 p1 p2 p3 σ w h
def fX0_bestFrom (n : Nat) (p1 : Int32) (p2 : Int32) (σ : zS) : Option (Int64 × zS) := (ggGX0_addPlanned n).2 p1 p2 σ
theorem lX0_bestFrom {sc : Nat × (Nat → Int32)} (n : Nat) (p1 : Int32) (p2 : Int32) (σ : zS) (w : Int64 × zS) (h : fX0_bestFrom n p1 p2 σ = some w) : zC (zY0 sc) (DDGX0_addPlanned + n) 0 0 mX0_bestFrom [.ref 27, .int p1, .int p2] (zE σ) (some (.long w.1), zE w.2) := (gokGX0_addPlanned sc n).2 p1 p2 σ w h
theorem dX0_plan_0 : decode cX0_plan 0 = .ok (.aload_n 0, 1) := by decide +kernel
theorem dX0_plan_1 : decode cX0_plan 1 = .ok (.getfield 21, 3) := by decide +kernel
theorem dX0_plan_4 : decode cX0_plan 4 = .ok (.iload_n 1, 1) := by decide +kernel
theorem dX0_plan_5 : decode cX0_plan 5 = .ok (.if_icmp .ne 20, 3) := by decide +kernel
theorem dX0_plan_8 : decode cX0_plan 8 = .ok (.aload_n 0, 1) := by decide +kernel
theorem dX0_plan_9 : decode cX0_plan 9 = .ok (.getfield 25, 3) := by decide +kernel
theorem dX0_plan_12 : decode cX0_plan 12 = .ok (.iload_n 2, 1) := by decide +kernel
theorem dX0_plan_13 : decode cX0_plan 13 = .ok (.if_icmp .ne 12, 3) := by decide +kernel
theorem dX0_plan_16 : decode cX0_plan 16 = .ok (.aload_n 0, 1) := by decide +kernel
theorem dX0_plan_17 : decode cX0_plan 17 = .ok (.getfield 28, 3) := by decide +kernel
theorem dX0_plan_20 : decode cX0_plan 20 = .ok (.iload_n 3, 1) := by decide +kernel
theorem dX0_plan_21 : decode cX0_plan 21 = .ok (.if_icmp .ne 4, 3) := by decide +kernel
theorem dX0_plan_24 : decode cX0_plan 24 = .ok (.return_, 1) := by decide +kernel
theorem dX0_plan_25 : decode cX0_plan 25 = .ok (.aload_n 0, 1) := by decide +kernel
theorem dX0_plan_26 : decode cX0_plan 26 = .ok (.iload_n 1, 1) := by decide +kernel
theorem dX0_plan_27 : decode cX0_plan 27 = .ok (.putfield 21, 3) := by decide +kernel
theorem dX0_plan_30 : decode cX0_plan 30 = .ok (.aload_n 0, 1) := by decide +kernel
theorem dX0_plan_31 : decode cX0_plan 31 = .ok (.iload_n 2, 1) := by decide +kernel
theorem dX0_plan_32 : decode cX0_plan 32 = .ok (.putfield 25, 3) := by decide +kernel
theorem dX0_plan_35 : decode cX0_plan 35 = .ok (.aload_n 0, 1) := by decide +kernel
theorem dX0_plan_36 : decode cX0_plan 36 = .ok (.iload_n 3, 1) := by decide +kernel
theorem dX0_plan_37 : decode cX0_plan 37 = .ok (.putfield 28, 3) := by decide +kernel
theorem dX0_plan_40 : decode cX0_plan 40 = .ok (.aload_n 0, 1) := by decide +kernel
theorem dX0_plan_41 : decode cX0_plan 41 = .ok (.getfield 18, 3) := by decide +kernel
theorem dX0_plan_44 : decode cX0_plan 44 = .ok (.iload_n 2, 1) := by decide +kernel
theorem dX0_plan_45 : decode cX0_plan 45 = .ok (.lconst 1, 1) := by decide +kernel
theorem dX0_plan_46 : decode cX0_plan 46 = .ok (.invokestatic 55, 3) := by decide +kernel
theorem dX0_plan_49 : decode cX0_plan 49 = .ok (.iload_n 2, 1) := by decide +kernel
theorem dX0_plan_50 : decode cX0_plan 50 = .ok (.iconst 1, 1) := by decide +kernel
theorem dX0_plan_51 : decode cX0_plan 51 = .ok (.isub, 1) := by decide +kernel
theorem dX0_plan_52 : decode cX0_plan 52 = .ok (.istore 4, 2) := by decide +kernel
theorem dX0_plan_54 : decode cX0_plan 54 = .ok (.iload 4, 2) := by decide +kernel
theorem dX0_plan_56 : decode cX0_plan 56 = .ok (.ifCond .lt 47, 3) := by decide +kernel
theorem dX0_plan_59 : decode cX0_plan 59 = .ok (.aload_n 0, 1) := by decide +kernel
theorem dX0_plan_60 : decode cX0_plan 60 = .ok (.getfield 18, 3) := by decide +kernel
theorem dX0_plan_63 : decode cX0_plan 63 = .ok (.iload 4, 2) := by decide +kernel
theorem dX0_plan_65 : decode cX0_plan 65 = .ok (.aload_n 0, 1) := by decide +kernel
theorem dX0_plan_66 : decode cX0_plan 66 = .ok (.getfield 18, 3) := by decide +kernel
theorem dX0_plan_69 : decode cX0_plan 69 = .ok (.iload 4, 2) := by decide +kernel
theorem dX0_plan_71 : decode cX0_plan 71 = .ok (.iconst 1, 1) := by decide +kernel
theorem dX0_plan_72 : decode cX0_plan 72 = .ok (.iadd, 1) := by decide +kernel
theorem dX0_plan_73 : decode cX0_plan 73 = .ok (.invokestatic 59, 3) := by decide +kernel
theorem dX0_plan_76 : decode cX0_plan 76 = .ok (.aload_n 0, 1) := by decide +kernel
theorem dX0_plan_77 : decode cX0_plan 77 = .ok (.getfield 51, 3) := by decide +kernel
theorem dX0_plan_80 : decode cX0_plan 80 = .ok (.getfield 63, 3) := by decide +kernel
theorem dX0_plan_83 : decode cX0_plan 83 = .ok (.aload_n 0, 1) := by decide +kernel
theorem dX0_plan_84 : decode cX0_plan 84 = .ok (.iload 4, 2) := by decide +kernel
theorem dX0_plan_86 : decode cX0_plan 86 = .ok (.invokevirtual 69, 3) := by decide +kernel
theorem dX0_plan_89 : decode cX0_plan 89 = .ok (.invokevirtual 73, 3) := by decide +kernel
theorem dX0_plan_92 : decode cX0_plan 92 = .ok (.i2l, 1) := by decide +kernel
theorem dX0_plan_93 : decode cX0_plan 93 = .ok (.lmul, 1) := by decide +kernel
theorem dX0_plan_94 : decode cX0_plan 94 = .ok (.invokestatic 55, 3) := by decide +kernel
theorem dX0_plan_97 : decode cX0_plan 97 = .ok (.iinc 4 (-1), 3) := by decide +kernel
theorem dX0_plan_100 : decode cX0_plan 100 = .ok (.goto (-46), 3) := by decide +kernel
theorem dX0_plan_103 : decode cX0_plan 103 = .ok (.aload_n 0, 1) := by decide +kernel
theorem dX0_plan_104 : decode cX0_plan 104 = .ok (.getfield 15, 3) := by decide +kernel
theorem dX0_plan_107 : decode cX0_plan 107 = .ok (.ldc2_w 78, 3) := by decide +kernel
theorem dX0_plan_110 : decode cX0_plan 110 = .ok (.invokestatic 80, 3) := by decide +kernel
theorem dX0_plan_113 : decode cX0_plan 113 = .ok (.aload_n 0, 1) := by decide +kernel
theorem dX0_plan_114 : decode cX0_plan 114 = .ok (.aload_n 0, 1) := by decide +kernel
theorem dX0_plan_115 : decode cX0_plan 115 = .ok (.iconst 0, 1) := by decide +kernel
theorem dX0_plan_116 : decode cX0_plan 116 = .ok (.iload_n 3, 1) := by decide +kernel
theorem dX0_plan_117 : decode cX0_plan 117 = .ok (.invokevirtual 86, 3) := by decide +kernel
theorem dX0_plan_120 : decode cX0_plan 120 = .ok (.putfield 34, 3) := by decide +kernel
theorem dX0_plan_123 : decode cX0_plan 123 = .ok (.aload_n 0, 1) := by decide +kernel
theorem dX0_plan_124 : decode cX0_plan 124 = .ok (.aload_n 0, 1) := by decide +kernel
theorem dX0_plan_125 : decode cX0_plan 125 = .ok (.getfield 18, 3) := by decide +kernel
theorem dX0_plan_128 : decode cX0_plan 128 = .ok (.iconst 0, 1) := by decide +kernel
theorem dX0_plan_129 : decode cX0_plan 129 = .ok (.invokestatic 59, 3) := by decide +kernel
theorem dX0_plan_132 : decode cX0_plan 132 = .ok (.putfield 38, 3) := by decide +kernel
theorem dX0_plan_135 : decode cX0_plan 135 = .ok (.aload_n 0, 1) := by decide +kernel
theorem dX0_plan_136 : decode cX0_plan 136 = .ok (.aload_n 0, 1) := by decide +kernel
theorem dX0_plan_137 : decode cX0_plan 137 = .ok (.iconst 0, 1) := by decide +kernel
theorem dX0_plan_138 : decode cX0_plan 138 = .ok (.iload_n 3, 1) := by decide +kernel
theorem dX0_plan_139 : decode cX0_plan 139 = .ok (.invokevirtual 90, 3) := by decide +kernel
theorem dX0_plan_142 : decode cX0_plan 142 = .ok (.putfield 31, 3) := by decide +kernel
theorem dX0_plan_145 : decode cX0_plan 145 = .ok (.return_, 1) := by decide +kernel
def fX0_plan_52 : Nat → Int32 → Int32 → zS → Option zS
  | 0, _, _, _ => none
  | f + 1, x3, x4, σ => if x4 < 0 then bnr (fJ7_fill_d0a16 29 244 ((-1000000000000000)) σ) fun σ5 => bnc (fX0_bestFrom zD 0 x3 σ5) fun v9 σ7 => bnd (lS σ7 27 8 v9) fun σ10 => aL σ10 30 5 0 fun v11 => bnd (lS σ10 27 9 v11) fun σ12 => bnr (fX0_bestSecond σ12 0 x3) fun v13 => bnd (iS σ12 27 7 v13) fun σ15 => some σ15 else aL σ 30 5 (x4 + 1) fun v16 => bnr (fX0_tunnelAt σ x4) fun v17 => bnr (fX6_allWeights σ.2.2.2.1 σ v17) fun v19 => wL σ 30 5 x4 (v16 * v19.toInt64) fun σ21 => fX0_plan_52 f x3 (x4 + (-1)) σ21
theorem kX0_plan_54 {sc : Nat × (Nat → Int32)} : ∀ (fuel : Nat) (x3 : Int32) (x4 : Int32) (σ : zS) (w : zS) (h : fX0_plan_52 fuel x3 x4 σ = some w), zR (zY0 sc) 126 0 0 mX0_plan 54 [(0, .ref 27), (3, .int x3), (4, .int x4)] [] (zE σ) (none, zE w) := by
  intro fuel
  induction fuel with
  | zero => intro x3 x4 σ w h; exact nomatch h
  | succ f ih =>
    intro x3 x4 σ w h
    rw [fX0_plan_52] at h
    refine kR.iload dX0_plan_54 2 rfl ?_
    refine kR.if_lt (tgt := 103) dX0_plan_56 (by decide) h (fun h => ?_) (fun h => ?_)
    · refine kR.aload_n dX0_plan_103 0 rfl ?_
      refine kR.getR (v := 29) dX0_plan_104 flX0_15 zcf0 zp27 (Or.inr ⟨_, rfl⟩) rfl ?_
      refine zR.ldc2 (v := (-1000000000000000)) dX0_plan_107 clX0_78 ?_
      obtain ⟨σ5, e6, h⟩ := bnr_some h
      refine kR.cSv [.ref 29, .long ((-1000000000000000))] dX0_plan_110 rfl (by decide) (Or.inl mwX0_80) rfl (Nat.le_of_ble_eq_true rfl) (lJ7_fill_d0a16 29 244 (fun _ => zp29) rfl (Nat.le_of_ble_eq_true rfl) ((-1000000000000000)) σ _ e6) ?_
      refine kR.aload_n dX0_plan_113 0 rfl ?_
      refine kR.aload_n dX0_plan_114 0 rfl ?_
      refine zR.iconst (v := 0) dX0_plan_115 (by decide) ?_
      refine kR.iload_n dX0_plan_116 1 rfl ?_
      obtain ⟨v9, σ7, e8, h⟩ := bnc_some h
      refine kR.cVl [.int 0, .int x3] dX0_plan_117 rfl (by decide) mwX0_86 zp27 (by decide) rfl rfl (Nat.le_of_ble_eq_true rfl) (lX0_bestFrom zD 0 x3 σ5 _ e8) ?_
      refine kR.putL dX0_plan_120 fpX0_34 zcf0 zp27 rfl h (fun σ10 h => ?_)
      refine kR.aload_n dX0_plan_123 0 rfl ?_
      refine kR.aload_n dX0_plan_124 0 rfl ?_
      refine kR.getR (v := 30) dX0_plan_125 flX0_18 zcf0 zp27 (Or.inr ⟨_, rfl⟩) rfl ?_
      refine zR.iconst (v := 0) dX0_plan_128 (by decide) ?_
      obtain ⟨v11, e0, h⟩ := aLv (Nat.le_of_ble_eq_true rfl) h
      refine kR.cSl [.ref 30, .int 0] dX0_plan_129 rfl (by decide) (Or.inr mwX0_59) rfl (Nat.le_of_ble_eq_true rfl) (lX10_valueAt_ 30 5 σ10 (fun _ => zp30) rfl (Nat.le_of_ble_eq_true rfl) 0 _ e0) ?_
      refine kR.putL dX0_plan_132 fpX0_38 zcf0 zp27 rfl h (fun σ12 h => ?_)
      refine kR.aload_n dX0_plan_135 0 rfl ?_
      refine kR.aload_n dX0_plan_136 0 rfl ?_
      refine zR.iconst (v := 0) dX0_plan_137 (by decide) ?_
      refine kR.iload_n dX0_plan_138 1 rfl ?_
      obtain ⟨v13, e14, h⟩ := bnr_some h
      refine kR.cVi [.int 0, .int x3] dX0_plan_139 rfl (by decide) mwX0_90 zp27 (by decide) rfl rfl (Nat.le_of_ble_eq_true rfl) (lX0_bestSecond σ12 0 x3 _ e14) ?_
      refine kR.putI dX0_plan_142 fpX0_31 zcf0 zp27 rfl h (fun σ15 h => ?_)
      exact kR.vret dX0_plan_145 h
    · refine kR.aload_n dX0_plan_59 0 rfl ?_
      refine kR.getR (v := 30) dX0_plan_60 flX0_18 zcf0 zp27 (Or.inr ⟨_, rfl⟩) rfl ?_
      refine kR.iload dX0_plan_63 2 rfl ?_
      refine kR.aload_n dX0_plan_65 0 rfl ?_
      refine kR.getR (v := 30) dX0_plan_66 flX0_18 zcf0 zp27 (Or.inr ⟨_, rfl⟩) rfl ?_
      refine kR.iload dX0_plan_69 2 rfl ?_
      refine zR.iconst (v := 1) dX0_plan_71 (by decide) ?_
      refine zR.iadd dX0_plan_72 ?_
      obtain ⟨v16, e0, h⟩ := aLv (Nat.le_of_ble_eq_true rfl) h
      refine kR.cSl [.ref 30, .int (x4 + 1)] dX0_plan_73 rfl (by decide) (Or.inr mwX0_59) rfl (Nat.le_of_ble_eq_true rfl) (lX10_valueAt_ 30 5 σ (fun _ => zp30) rfl (Nat.le_of_ble_eq_true rfl) (x4 + 1) _ e0) ?_
      refine kR.aload_n dX0_plan_76 0 rfl ?_
      refine kR.getR (v := 8) dX0_plan_77 flX0_51 zcf0 zp27 (Or.inl ⟨_, rfl⟩) rfl ?_
      refine kR.getR (v := (rp σ.2.2.2.1 + 0)) dX0_plan_80 flX0_63 zcf4 zp8 (Or.inl ⟨_, rfl⟩) rfl ?_
      refine kR.aload_n dX0_plan_83 0 rfl ?_
      refine kR.iload dX0_plan_84 2 rfl ?_
      obtain ⟨v17, e18, h⟩ := bnr_some h
      refine kR.cVi [.int x4] dX0_plan_86 rfl (by decide) mwX0_69 zp27 (by decide) rfl rfl (Nat.le_of_ble_eq_true rfl) (lX0_tunnelAt σ x4 _ e18) ?_
      obtain ⟨v19, e20, h⟩ := bnr_some h
      refine kR.cVi [.int v17] dX0_plan_89 rfl (by decide) mwX0_73 (zq0 σ.2.2.2.1) (by decide) rfl rfl (Nat.le_of_ble_eq_true rfl) (lX6_allWeights σ.2.2.2.1 σ v17 _ e20) ?_
      refine zR.i2l dX0_plan_92 ?_
      refine zR.lmul dX0_plan_93 ?_
      obtain ⟨σ21, e0, h⟩ := wLv (Nat.le_of_ble_eq_true rfl) h
      refine kR.cSv [.ref 30, .int x4, .long (v16 * v19.toInt64)] dX0_plan_94 rfl (by decide) (Or.inr mwX0_55) rfl (Nat.le_of_ble_eq_true rfl) (lX10_setAt_ 30 5 (fun _ => zp30) rfl (Nat.le_of_ble_eq_true rfl) x4 (v16 * v19.toInt64) σ _ e0) ?_
      refine zR.iinc 2 (v := x4 + (-1)) (ls' := [(4, .int (x4 + (-1))), (0, .ref 27), (3, .int x3)]) dX0_plan_97 rfl rfl (by decide) rfl ?_
      refine zR.goto (tgt := 54) dX0_plan_100 (by decide) ?_
      refine zR.sub [1, 2, 0] rfl ?_
      exact ih _ _ _ _ h
def fX0_plan_25 (x1 : Int32) (x2 : Int32) (x3 : Int32) (σ : zS) : Option zS := bnd (iS σ 27 4 x1) fun σ1 => bnd (iS σ1 27 5 x2) fun σ2 => bnd (iS σ2 27 6 x3) fun σ3 => wL σ3 30 5 x2 1 fun σ4 => fX0_plan_52 zF x3 (x2 - 1) σ4
theorem kX0_plan_25 {sc : Nat × (Nat → Int32)} (x1 : Int32) (x2 : Int32) (x3 : Int32) (σ : zS) (w : zS) (h : fX0_plan_25 x1 x2 x3 σ = some w) : zR (zY0 sc) 126 0 0 mX0_plan 25 [(0, .ref 27), (1, .int x1), (2, .int x2), (3, .int x3)] [] (zE σ) (none, zE w) := by
  unfold fX0_plan_25 at h
  refine kR.aload_n dX0_plan_25 0 rfl ?_
  refine kR.iload_n dX0_plan_26 1 rfl ?_
  refine kR.putI dX0_plan_27 fpX0_21 zcf0 zp27 rfl h (fun σ1 h => ?_)
  refine kR.aload_n dX0_plan_30 0 rfl ?_
  refine kR.iload_n dX0_plan_31 2 rfl ?_
  refine kR.putI dX0_plan_32 fpX0_25 zcf0 zp27 rfl h (fun σ2 h => ?_)
  refine kR.aload_n dX0_plan_35 0 rfl ?_
  refine kR.iload_n dX0_plan_36 3 rfl ?_
  refine kR.putI dX0_plan_37 fpX0_28 zcf0 zp27 rfl h (fun σ3 h => ?_)
  refine kR.aload_n dX0_plan_40 0 rfl ?_
  refine kR.getR (v := 30) dX0_plan_41 flX0_18 zcf0 zp27 (Or.inr ⟨_, rfl⟩) rfl ?_
  refine kR.iload_n dX0_plan_44 2 rfl ?_
  refine zR.lconst (v := 1) dX0_plan_45 (by decide) ?_
  obtain ⟨σ4, e0, h⟩ := wLv (Nat.le_of_ble_eq_true rfl) h
  refine kR.cSv [.ref 30, .int x2, .long 1] dX0_plan_46 rfl (by decide) (Or.inr mwX0_55) rfl (Nat.le_of_ble_eq_true rfl) (lX10_setAt_ 30 5 (fun _ => zp30) rfl (Nat.le_of_ble_eq_true rfl) x2 1 σ3 _ e0) ?_
  refine kR.iload_n dX0_plan_49 2 rfl ?_
  refine zR.iconst (v := 1) dX0_plan_50 (by decide) ?_
  refine zR.isub dX0_plan_51 ?_
  refine zR.istore (i := 4) (ls' := [(4, .int (x2 - 1)), (0, .ref 27), (1, .int x1), (2, .int x2), (3, .int x3)]) dX0_plan_52 (by decide) rfl ?_
  refine zR.sub [1, 4, 0] rfl ?_
  exact kX0_plan_54 zF _ _ _ _ h
def fX0_plan (p1 : Int32) (p2 : Int32) (p3 : Int32) (σ : zS) : Option zS := if (iG σ 27 4) = p1 then if (iG σ 27 5) = p2 then if (iG σ 27 6) = p3 then some σ else fX0_plan_25 p1 p2 p3 σ else fX0_plan_25 p1 p2 p3 σ else fX0_plan_25 p1 p2 p3 σ
theorem eX0_plan {sc : Nat × (Nat → Int32)} (p1 : Int32) (p2 : Int32) (p3 : Int32) (σ : zS) (w : zS) (h : fX0_plan p1 p2 p3 σ = some w) : zR (zY0 sc) 126 0 0 mX0_plan 0 [(0, .ref 27), (1, .int p1), (2, .int p2), (3, .int p3)] [] (zE σ) (none, zE w) := by
  unfold fX0_plan at h
  refine kR.aload_n dX0_plan_0 0 rfl ?_
  refine kR.getI dX0_plan_1 flX0_21 zcf0 zp27 (Or.inl rfl) ?_
  refine kR.iload_n dX0_plan_4 1 rfl ?_
  refine kR.icmp_ne (tgt := 25) dX0_plan_5 (by decide) h (fun h => ?_) (fun h => ?_)
  · exact kX0_plan_25 _ _ _ _ _ h
  · refine kR.aload_n dX0_plan_8 0 rfl ?_
    refine kR.getI dX0_plan_9 flX0_25 zcf0 zp27 (Or.inl rfl) ?_
    refine kR.iload_n dX0_plan_12 2 rfl ?_
    refine kR.icmp_ne (tgt := 25) dX0_plan_13 (by decide) h (fun h => ?_) (fun h => ?_)
    · exact kX0_plan_25 _ _ _ _ _ h
    · refine kR.aload_n dX0_plan_16 0 rfl ?_
      refine kR.getI dX0_plan_17 flX0_28 zcf0 zp27 (Or.inl rfl) ?_
      refine kR.iload_n dX0_plan_20 3 rfl ?_
      refine kR.icmp_ne (tgt := 25) dX0_plan_21 (by decide) h (fun h => ?_) (fun h => ?_)
      · exact kX0_plan_25 _ _ _ _ _ h
      · exact kR.vret dX0_plan_24 h
theorem lX0_plan {sc : Nat × (Nat → Int32)} (p1 : Int32) (p2 : Int32) (p3 : Int32) (σ : zS) (w : zS) (h : fX0_plan p1 p2 p3 σ = some w) : zC (zY0 sc) 126 0 0 mX0_plan [.ref 27, .int p1, .int p2, .int p3] (zE σ) (none, zE w) := zC.of (by decide +kernel) (Nat.le_of_ble_eq_true rfl) rfl (eX0_plan p1 p2 p3 σ w h)
theorem dX10_alone_0 : decode cX10_alone 0 = .ok (.aload_n 0, 1) := by decide +kernel
theorem dX10_alone_1 : decode cX10_alone 1 = .ok (.getfield 38, 3) := by decide +kernel
theorem dX10_alone_4 : decode cX10_alone 4 = .ok (.getfield 111, 3) := by decide +kernel
theorem dX10_alone_7 : decode cX10_alone 7 = .ok (.iload_n 1, 1) := by decide +kernel
theorem dX10_alone_8 : decode cX10_alone 8 = .ok (.iload_n 2, 1) := by decide +kernel
theorem dX10_alone_9 : decode cX10_alone 9 = .ok (.invokevirtual 206, 3) := by decide +kernel
theorem dX10_alone_12 : decode cX10_alone 12 = .ok (.ifCond .eq 12, 3) := by decide +kernel
theorem dX10_alone_15 : decode cX10_alone 15 = .ok (.iload_n 3, 1) := by decide +kernel
theorem dX10_alone_16 : decode cX10_alone 16 = .ok (.ifCond .lt 8, 3) := by decide +kernel
theorem dX10_alone_19 : decode cX10_alone 19 = .ok (.iload_n 3, 1) := by decide +kernel
theorem dX10_alone_20 : decode cX10_alone 20 = .ok (.iconst 1, 1) := by decide +kernel
theorem dX10_alone_21 : decode cX10_alone 21 = .ok (.if_icmp .le 6, 3) := by decide +kernel
theorem dX10_alone_24 : decode cX10_alone 24 = .ok (.ldc 201, 2) := by decide +kernel
theorem dX10_alone_26 : decode cX10_alone 26 = .ok (.ireturn, 1) := by decide +kernel
theorem dX10_alone_27 : decode cX10_alone 27 = .ok (.aload_n 0, 1) := by decide +kernel
theorem dX10_alone_28 : decode cX10_alone 28 = .ok (.getfield 47, 3) := by decide +kernel
theorem dX10_alone_31 : decode cX10_alone 31 = .ok (.iload_n 2, 1) := by decide +kernel
theorem dX10_alone_32 : decode cX10_alone 32 = .ok (.iconst 1, 1) := by decide +kernel
theorem dX10_alone_33 : decode cX10_alone 33 = .ok (.aload_n 0, 1) := by decide +kernel
theorem dX10_alone_34 : decode cX10_alone 34 = .ok (.getfield 19, 3) := by decide +kernel
theorem dX10_alone_37 : decode cX10_alone 37 = .ok (.iload_n 1, 1) := by decide +kernel
theorem dX10_alone_38 : decode cX10_alone 38 = .ok (.invokevirtual 186, 3) := by decide +kernel
theorem dX10_alone_41 : decode cX10_alone 41 = .ok (.invokevirtual 228, 3) := by decide +kernel
theorem dX10_alone_44 : decode cX10_alone 44 = .ok (.iload_n 3, 1) := by decide +kernel
theorem dX10_alone_45 : decode cX10_alone 45 = .ok (.ifCond .ne 13, 3) := by decide +kernel
theorem dX10_alone_48 : decode cX10_alone 48 = .ok (.aload_n 0, 1) := by decide +kernel
theorem dX10_alone_49 : decode cX10_alone 49 = .ok (.getfield 47, 3) := by decide +kernel
theorem dX10_alone_52 : decode cX10_alone 52 = .ok (.getfield 232, 3) := by decide +kernel
theorem dX10_alone_55 : decode cX10_alone 55 = .ok (.goto 20, 3) := by decide +kernel
theorem dX10_alone_58 : decode cX10_alone 58 = .ok (.aload_n 0, 1) := by decide +kernel
theorem dX10_alone_59 : decode cX10_alone 59 = .ok (.getfield 47, 3) := by decide +kernel
theorem dX10_alone_62 : decode cX10_alone 62 = .ok (.getfield 235, 3) := by decide +kernel
theorem dX10_alone_65 : decode cX10_alone 65 = .ok (.aload_n 0, 1) := by decide +kernel
theorem dX10_alone_66 : decode cX10_alone 66 = .ok (.getfield 47, 3) := by decide +kernel
theorem dX10_alone_69 : decode cX10_alone 69 = .ok (.getfield 239, 3) := by decide +kernel
theorem dX10_alone_72 : decode cX10_alone 72 = .ok (.invokestatic 202, 3) := by decide +kernel
theorem dX10_alone_75 : decode cX10_alone 75 = .ok (.ireturn, 1) := by decide +kernel
def fX10_alone (p1 : Int32) (p2 : Int32) (p3 : Int32) (σ : zS) : Option (Int32 × zS) := if (fX6_hasBoth σ.2.2.2.1 σ p1 p2) = 0 then some ((-1000000000), σ) else if p3 < 0 then some ((-1000000000), σ) else if p3 ≤ 1 then bnr (fX7_breathOf σ p1) fun v1 => bnr (fX0_plan p2 1 v1 σ) fun σ3 => if p3 = 0 then some (iG σ3 27 7, σ3) else bnr (fX10_thousandths (lG σ3 27 8) (lG σ3 27 9)) fun v5 => some (v5, σ3) else some ((-1000000000), σ)
theorem eX10_alone {sc : Nat × (Nat → Int32)} (p1 : Int32) (p2 : Int32) (p3 : Int32) (σ : zS) (w : Int32 × zS) (h : fX10_alone p1 p2 p3 σ = some w) : zR (zY0 sc) 127 0 0 mX10_alone 0 [(0, .ref 1), (1, .int p1), (2, .int p2), (3, .int p3)] [] (zE σ) (some (.int w.1), zE w.2) := by
  unfold fX10_alone at h
  refine kR.aload_n dX10_alone_0 0 rfl ?_
  refine kR.getR (v := 8) dX10_alone_1 flX10_38 zcf10 zp1 (Or.inl ⟨_, rfl⟩) rfl ?_
  refine kR.getR (v := (rp σ.2.2.2.1 + 0)) dX10_alone_4 flX10_111 zcf4 zp8 (Or.inl ⟨_, rfl⟩) rfl ?_
  refine kR.iload_n dX10_alone_7 1 rfl ?_
  refine kR.iload_n dX10_alone_8 2 rfl ?_
  refine kR.cVi [.int p1, .int p2] dX10_alone_9 rfl (by decide) mwX10_206 (zq0 σ.2.2.2.1) (by decide) rfl rfl (Nat.le_of_ble_eq_true rfl) (lX6_hasBoth σ.2.2.2.1 σ p1 p2) ?_
  refine kR.if_eq (tgt := 24) dX10_alone_12 (by decide) h (fun h => ?_) (fun h => ?_)
  · refine zR.ldc (v := (-1000000000)) dX10_alone_24 ciX10_201 ?_
    exact kR.iretW dX10_alone_26 (nzI rfl _) h
  · refine kR.iload_n dX10_alone_15 3 rfl ?_
    refine kR.if_lt (tgt := 24) dX10_alone_16 (by decide) h (fun h => ?_) (fun h => ?_)
    · refine zR.ldc (v := (-1000000000)) dX10_alone_24 ciX10_201 ?_
      exact kR.iretW dX10_alone_26 (nzI rfl _) h
    · refine kR.iload_n dX10_alone_19 3 rfl ?_
      refine zR.iconst (v := 1) dX10_alone_20 (by decide) ?_
      refine kR.icmp_le (tgt := 27) dX10_alone_21 (by decide) h (fun h => ?_) (fun h => ?_)
      · refine kR.aload_n dX10_alone_27 0 rfl ?_
        refine kR.getR (v := 27) dX10_alone_28 flX10_47 zcf10 zp1 (Or.inl ⟨_, rfl⟩) rfl ?_
        refine kR.iload_n dX10_alone_31 2 rfl ?_
        refine zR.iconst (v := 1) dX10_alone_32 (by decide) ?_
        refine kR.aload_n dX10_alone_33 0 rfl ?_
        refine kR.getR (v := 4) dX10_alone_34 flX10_19 zcf10 zp1 (Or.inl ⟨_, rfl⟩) rfl ?_
        refine kR.iload_n dX10_alone_37 1 rfl ?_
        obtain ⟨v1, e2, h⟩ := bnr_some h
        refine kR.cVi [.int p1] dX10_alone_38 rfl (by decide) mwX10_186 zp4 (by decide) rfl rfl (Nat.le_of_ble_eq_true rfl) (lX7_breathOf σ p1 _ e2) ?_
        obtain ⟨σ3, e4, h⟩ := bnr_some h
        refine kR.cVv [.int p2, .int 1, .int v1] dX10_alone_41 rfl (by decide) mwX10_228 zp27 (by decide) rfl rfl (Nat.le_of_ble_eq_true rfl) (lX0_plan p2 1 v1 σ _ e4) ?_
        refine kR.iload_n dX10_alone_44 3 rfl ?_
        refine kR.if_ne (tgt := 58) dX10_alone_45 (by decide) h (fun h => ?_) (fun h => ?_)
        · refine kR.aload_n dX10_alone_58 0 rfl ?_
          refine kR.getR (v := 27) dX10_alone_59 flX10_47 zcf10 zp1 (Or.inl ⟨_, rfl⟩) rfl ?_
          refine kR.getL dX10_alone_62 flX10_235 zcf0 zp27 rfl ?_
          refine kR.aload_n dX10_alone_65 0 rfl ?_
          refine kR.getR (v := 27) dX10_alone_66 flX10_47 zcf10 zp1 (Or.inl ⟨_, rfl⟩) rfl ?_
          refine kR.getL dX10_alone_69 flX10_239 zcf0 zp27 rfl ?_
          obtain ⟨v5, e6, h⟩ := bnr_some h
          refine kR.cSi [.long (lG σ3 27 8), .long (lG σ3 27 9)] dX10_alone_72 rfl (by decide) (Or.inl mwX10_202) rfl (Nat.le_of_ble_eq_true rfl) (lX10_thousandths (lG σ3 27 8) (lG σ3 27 9) _ e6) ?_
          exact kR.iretW dX10_alone_75 (nzI rfl _) h
        · refine kR.aload_n dX10_alone_48 0 rfl ?_
          refine kR.getR (v := 27) dX10_alone_49 flX10_47 zcf10 zp1 (Or.inl ⟨_, rfl⟩) rfl ?_
          refine kR.getI dX10_alone_52 flX10_232 zcf0 zp27 (Or.inl rfl) ?_
          refine zR.goto (tgt := 75) dX10_alone_55 (by decide) ?_
          exact kR.iretW dX10_alone_75 (nzI rfl _) h
      · refine zR.ldc (v := (-1000000000)) dX10_alone_24 ciX10_201 ?_
        exact kR.iretW dX10_alone_26 (nzI rfl _) h
theorem lX10_alone {sc : Nat × (Nat → Int32)} (p1 : Int32) (p2 : Int32) (p3 : Int32) (σ : zS) (w : Int32 × zS) (h : fX10_alone p1 p2 p3 σ = some w) : zC (zY0 sc) 127 0 0 mX10_alone [.ref 1, .int p1, .int p2, .int p3] (zE σ) (some (.int w.1), zE w.2) := zC.of (by decide +kernel) (Nat.le_of_ble_eq_true rfl) ⟨_, rfl⟩ (eX10_alone p1 p2 p3 σ w h)
theorem dX10_on_0 : decode cX10_on 0 = .ok (.aload_n 0, 1) := by decide +kernel
theorem dX10_on_1 : decode cX10_on 1 = .ok (.getfield 19, 3) := by decide +kernel
theorem dX10_on_4 : decode cX10_on 4 = .ok (.invokevirtual 140, 3) := by decide +kernel
theorem dX10_on_7 : decode cX10_on 7 = .ok (.istore 4, 2) := by decide +kernel
theorem dX10_on_9 : decode cX10_on 9 = .ok (.aload_n 0, 1) := by decide +kernel
theorem dX10_on_10 : decode cX10_on 10 = .ok (.getfield 38, 3) := by decide +kernel
theorem dX10_on_13 : decode cX10_on 13 = .ok (.getfield 111, 3) := by decide +kernel
theorem dX10_on_16 : decode cX10_on 16 = .ok (.iload_n 1, 1) := by decide +kernel
theorem dX10_on_17 : decode cX10_on 17 = .ok (.iload 4, 2) := by decide +kernel
theorem dX10_on_19 : decode cX10_on 19 = .ok (.invokevirtual 206, 3) := by decide +kernel
theorem dX10_on_22 : decode cX10_on 22 = .ok (.ifCond .eq 22, 3) := by decide +kernel
theorem dX10_on_25 : decode cX10_on 25 = .ok (.iload_n 2, 1) := by decide +kernel
theorem dX10_on_26 : decode cX10_on 26 = .ok (.iconst 1, 1) := by decide +kernel
theorem dX10_on_27 : decode cX10_on 27 = .ok (.if_icmp .lt 17, 3) := by decide +kernel
theorem dX10_on_30 : decode cX10_on 30 = .ok (.iload_n 2, 1) := by decide +kernel
theorem dX10_on_31 : decode cX10_on 31 = .ok (.iconst 4, 1) := by decide +kernel
theorem dX10_on_32 : decode cX10_on 32 = .ok (.if_icmp .gt 12, 3) := by decide +kernel
theorem dX10_on_35 : decode cX10_on 35 = .ok (.iload_n 3, 1) := by decide +kernel
theorem dX10_on_36 : decode cX10_on 36 = .ok (.ifCond .lt 8, 3) := by decide +kernel
theorem dX10_on_39 : decode cX10_on 39 = .ok (.iload_n 3, 1) := by decide +kernel
theorem dX10_on_40 : decode cX10_on 40 = .ok (.iconst 1, 1) := by decide +kernel
theorem dX10_on_41 : decode cX10_on 41 = .ok (.if_icmp .le 6, 3) := by decide +kernel
theorem dX10_on_44 : decode cX10_on 44 = .ok (.ldc 201, 2) := by decide +kernel
theorem dX10_on_46 : decode cX10_on 46 = .ok (.ireturn, 1) := by decide +kernel
theorem dX10_on_47 : decode cX10_on 47 = .ok (.aload_n 0, 1) := by decide +kernel
theorem dX10_on_48 : decode cX10_on 48 = .ok (.getfield 47, 3) := by decide +kernel
theorem dX10_on_51 : decode cX10_on 51 = .ok (.iload 4, 2) := by decide +kernel
theorem dX10_on_53 : decode cX10_on 53 = .ok (.iload_n 2, 1) := by decide +kernel
theorem dX10_on_54 : decode cX10_on 54 = .ok (.aload_n 0, 1) := by decide +kernel
theorem dX10_on_55 : decode cX10_on 55 = .ok (.getfield 19, 3) := by decide +kernel
theorem dX10_on_58 : decode cX10_on 58 = .ok (.iload_n 1, 1) := by decide +kernel
theorem dX10_on_59 : decode cX10_on 59 = .ok (.invokevirtual 186, 3) := by decide +kernel
theorem dX10_on_62 : decode cX10_on 62 = .ok (.invokevirtual 228, 3) := by decide +kernel
theorem dX10_on_65 : decode cX10_on 65 = .ok (.iload_n 3, 1) := by decide +kernel
theorem dX10_on_66 : decode cX10_on 66 = .ok (.ifCond .ne 13, 3) := by decide +kernel
theorem dX10_on_69 : decode cX10_on 69 = .ok (.aload_n 0, 1) := by decide +kernel
theorem dX10_on_70 : decode cX10_on 70 = .ok (.getfield 47, 3) := by decide +kernel
theorem dX10_on_73 : decode cX10_on 73 = .ok (.getfield 232, 3) := by decide +kernel
theorem dX10_on_76 : decode cX10_on 76 = .ok (.goto 20, 3) := by decide +kernel
theorem dX10_on_79 : decode cX10_on 79 = .ok (.aload_n 0, 1) := by decide +kernel
theorem dX10_on_80 : decode cX10_on 80 = .ok (.getfield 47, 3) := by decide +kernel
theorem dX10_on_83 : decode cX10_on 83 = .ok (.getfield 235, 3) := by decide +kernel
theorem dX10_on_86 : decode cX10_on 86 = .ok (.aload_n 0, 1) := by decide +kernel
theorem dX10_on_87 : decode cX10_on 87 = .ok (.getfield 47, 3) := by decide +kernel
theorem dX10_on_90 : decode cX10_on 90 = .ok (.getfield 239, 3) := by decide +kernel
theorem dX10_on_93 : decode cX10_on 93 = .ok (.invokestatic 202, 3) := by decide +kernel
theorem dX10_on_96 : decode cX10_on 96 = .ok (.ireturn, 1) := by decide +kernel
def fX10_on (p1 : Int32) (p2 : Int32) (p3 : Int32) (σ : zS) : Option (Int32 × zS) := bnr (fX7_nextTunnel σ) fun v1 => if (fX6_hasBoth σ.2.2.2.1 σ p1 v1) = 0 then some ((-1000000000), σ) else if p2 < 1 then some ((-1000000000), σ) else if 4 < p2 then some ((-1000000000), σ) else if p3 < 0 then some ((-1000000000), σ) else if p3 ≤ 1 then bnr (fX7_breathOf σ p1) fun v3 => bnr (fX0_plan v1 p2 v3 σ) fun σ5 => if p3 = 0 then some (iG σ5 27 7, σ5) else bnr (fX10_thousandths (lG σ5 27 8) (lG σ5 27 9)) fun v7 => some (v7, σ5) else some ((-1000000000), σ)
theorem eX10_on {sc : Nat × (Nat → Int32)} (p1 : Int32) (p2 : Int32) (p3 : Int32) (σ : zS) (w : Int32 × zS) (h : fX10_on p1 p2 p3 σ = some w) : zR (zY0 sc) 127 0 0 mX10_on 0 [(0, .ref 1), (1, .int p1), (2, .int p2), (3, .int p3)] [] (zE σ) (some (.int w.1), zE w.2) := by
  unfold fX10_on at h
  refine kR.aload_n dX10_on_0 0 rfl ?_
  refine kR.getR (v := 4) dX10_on_1 flX10_19 zcf10 zp1 (Or.inl ⟨_, rfl⟩) rfl ?_
  obtain ⟨v1, e2, h⟩ := bnr_some h
  refine kR.cVi [] dX10_on_4 rfl (by decide) mwX10_140 zp4 (by decide) rfl rfl (Nat.le_of_ble_eq_true rfl) (lX7_nextTunnel σ _ e2) ?_
  refine zR.istore (i := 4) (ls' := [(4, .int v1), (0, .ref 1), (1, .int p1), (2, .int p2), (3, .int p3)]) dX10_on_7 (by decide) rfl ?_
  refine kR.aload_n dX10_on_9 1 rfl ?_
  refine kR.getR (v := 8) dX10_on_10 flX10_38 zcf10 zp1 (Or.inl ⟨_, rfl⟩) rfl ?_
  refine kR.getR (v := (rp σ.2.2.2.1 + 0)) dX10_on_13 flX10_111 zcf4 zp8 (Or.inl ⟨_, rfl⟩) rfl ?_
  refine kR.iload_n dX10_on_16 2 rfl ?_
  refine kR.iload dX10_on_17 0 rfl ?_
  refine kR.cVi [.int p1, .int v1] dX10_on_19 rfl (by decide) mwX10_206 (zq0 σ.2.2.2.1) (by decide) rfl rfl (Nat.le_of_ble_eq_true rfl) (lX6_hasBoth σ.2.2.2.1 σ p1 v1) ?_
  refine kR.if_eq (tgt := 44) dX10_on_22 (by decide) h (fun h => ?_) (fun h => ?_)
  · refine zR.ldc (v := (-1000000000)) dX10_on_44 ciX10_201 ?_
    exact kR.iretW dX10_on_46 (nzI rfl _) h
  · refine kR.iload_n dX10_on_25 3 rfl ?_
    refine zR.iconst (v := 1) dX10_on_26 (by decide) ?_
    refine kR.icmp_lt (tgt := 44) dX10_on_27 (by decide) h (fun h => ?_) (fun h => ?_)
    · refine zR.ldc (v := (-1000000000)) dX10_on_44 ciX10_201 ?_
      exact kR.iretW dX10_on_46 (nzI rfl _) h
    · refine kR.iload_n dX10_on_30 3 rfl ?_
      refine zR.iconst (v := 4) dX10_on_31 (by decide) ?_
      refine kR.icmp_gt (tgt := 44) dX10_on_32 (by decide) h (fun h => ?_) (fun h => ?_)
      · refine zR.ldc (v := (-1000000000)) dX10_on_44 ciX10_201 ?_
        exact kR.iretW dX10_on_46 (nzI rfl _) h
      · refine kR.iload_n dX10_on_35 4 rfl ?_
        refine kR.if_lt (tgt := 44) dX10_on_36 (by decide) h (fun h => ?_) (fun h => ?_)
        · refine zR.ldc (v := (-1000000000)) dX10_on_44 ciX10_201 ?_
          exact kR.iretW dX10_on_46 (nzI rfl _) h
        · refine kR.iload_n dX10_on_39 4 rfl ?_
          refine zR.iconst (v := 1) dX10_on_40 (by decide) ?_
          refine kR.icmp_le (tgt := 47) dX10_on_41 (by decide) h (fun h => ?_) (fun h => ?_)
          · refine kR.aload_n dX10_on_47 1 rfl ?_
            refine kR.getR (v := 27) dX10_on_48 flX10_47 zcf10 zp1 (Or.inl ⟨_, rfl⟩) rfl ?_
            refine kR.iload dX10_on_51 0 rfl ?_
            refine kR.iload_n dX10_on_53 3 rfl ?_
            refine kR.aload_n dX10_on_54 1 rfl ?_
            refine kR.getR (v := 4) dX10_on_55 flX10_19 zcf10 zp1 (Or.inl ⟨_, rfl⟩) rfl ?_
            refine kR.iload_n dX10_on_58 2 rfl ?_
            obtain ⟨v3, e4, h⟩ := bnr_some h
            refine kR.cVi [.int p1] dX10_on_59 rfl (by decide) mwX10_186 zp4 (by decide) rfl rfl (Nat.le_of_ble_eq_true rfl) (lX7_breathOf σ p1 _ e4) ?_
            obtain ⟨σ5, e6, h⟩ := bnr_some h
            refine kR.cVv [.int v1, .int p2, .int v3] dX10_on_62 rfl (by decide) mwX10_228 zp27 (by decide) rfl rfl (Nat.le_of_ble_eq_true rfl) (lX0_plan v1 p2 v3 σ _ e6) ?_
            refine kR.iload_n dX10_on_65 4 rfl ?_
            refine kR.if_ne (tgt := 79) dX10_on_66 (by decide) h (fun h => ?_) (fun h => ?_)
            · refine kR.aload_n dX10_on_79 1 rfl ?_
              refine kR.getR (v := 27) dX10_on_80 flX10_47 zcf10 zp1 (Or.inl ⟨_, rfl⟩) rfl ?_
              refine kR.getL dX10_on_83 flX10_235 zcf0 zp27 rfl ?_
              refine kR.aload_n dX10_on_86 1 rfl ?_
              refine kR.getR (v := 27) dX10_on_87 flX10_47 zcf10 zp1 (Or.inl ⟨_, rfl⟩) rfl ?_
              refine kR.getL dX10_on_90 flX10_239 zcf0 zp27 rfl ?_
              obtain ⟨v7, e8, h⟩ := bnr_some h
              refine kR.cSi [.long (lG σ5 27 8), .long (lG σ5 27 9)] dX10_on_93 rfl (by decide) (Or.inl mwX10_202) rfl (Nat.le_of_ble_eq_true rfl) (lX10_thousandths (lG σ5 27 8) (lG σ5 27 9) _ e8) ?_
              exact kR.iretW dX10_on_96 (nzI rfl _) h
            · refine kR.aload_n dX10_on_69 1 rfl ?_
              refine kR.getR (v := 27) dX10_on_70 flX10_47 zcf10 zp1 (Or.inl ⟨_, rfl⟩) rfl ?_
              refine kR.getI dX10_on_73 flX10_232 zcf0 zp27 (Or.inl rfl) ?_
              refine zR.goto (tgt := 96) dX10_on_76 (by decide) ?_
              exact kR.iretW dX10_on_96 (nzI rfl _) h
          · refine zR.ldc (v := (-1000000000)) dX10_on_44 ciX10_201 ?_
            exact kR.iretW dX10_on_46 (nzI rfl _) h
theorem lX10_on {sc : Nat × (Nat → Int32)} (p1 : Int32) (p2 : Int32) (p3 : Int32) (σ : zS) (w : Int32 × zS) (h : fX10_on p1 p2 p3 σ = some w) : zC (zY0 sc) 127 0 0 mX10_on [.ref 1, .int p1, .int p2, .int p3] (zE σ) (some (.int w.1), zE w.2) := zC.of (by decide +kernel) (Nat.le_of_ble_eq_true rfl) ⟨_, rfl⟩ (eX10_on p1 p2 p3 σ w h)
theorem dX0_fillAgainstOthers_0 : decode cX0_fillAgainstOthers 0 = .ok (.aload_n 0, 1) := by decide +kernel
theorem dX0_fillAgainstOthers_1 : decode cX0_fillAgainstOthers 1 = .ok (.iconst 0, 1) := by decide +kernel
theorem dX0_fillAgainstOthers_2 : decode cX0_fillAgainstOthers 2 = .ok (.invokevirtual 97, 3) := by decide +kernel
theorem dX0_fillAgainstOthers_5 : decode cX0_fillAgainstOthers 5 = .ok (.iconst 0, 1) := by decide +kernel
theorem dX0_fillAgainstOthers_6 : decode cX0_fillAgainstOthers 6 = .ok (.istore 4, 2) := by decide +kernel
theorem dX0_fillAgainstOthers_8 : decode cX0_fillAgainstOthers 8 = .ok (.iload 4, 2) := by decide +kernel
theorem dX0_fillAgainstOthers_10 : decode cX0_fillAgainstOthers 10 = .ok (.aload_n 0, 1) := by decide +kernel
theorem dX0_fillAgainstOthers_11 : decode cX0_fillAgainstOthers 11 = .ok (.getfield 51, 3) := by decide +kernel
theorem dX0_fillAgainstOthers_14 : decode cX0_fillAgainstOthers 14 = .ok (.getfield 63, 3) := by decide +kernel
theorem dX0_fillAgainstOthers_17 : decode cX0_fillAgainstOthers 17 = .ok (.iload_n 2, 1) := by decide +kernel
theorem dX0_fillAgainstOthers_18 : decode cX0_fillAgainstOthers 18 = .ok (.invokevirtual 101, 3) := by decide +kernel
theorem dX0_fillAgainstOthers_21 : decode cX0_fillAgainstOthers 21 = .ok (.if_icmp .ge 162, 3) := by decide +kernel
theorem dX0_fillAgainstOthers_24 : decode cX0_fillAgainstOthers 24 = .ok (.aload_n 0, 1) := by decide +kernel
theorem dX0_fillAgainstOthers_25 : decode cX0_fillAgainstOthers 25 = .ok (.getfield 51, 3) := by decide +kernel
theorem dX0_fillAgainstOthers_28 : decode cX0_fillAgainstOthers 28 = .ok (.getfield 63, 3) := by decide +kernel
theorem dX0_fillAgainstOthers_31 : decode cX0_fillAgainstOthers 31 = .ok (.iload_n 2, 1) := by decide +kernel
theorem dX0_fillAgainstOthers_32 : decode cX0_fillAgainstOthers 32 = .ok (.iload 4, 2) := by decide +kernel
theorem dX0_fillAgainstOthers_34 : decode cX0_fillAgainstOthers 34 = .ok (.invokevirtual 108, 3) := by decide +kernel
theorem dX0_fillAgainstOthers_37 : decode cX0_fillAgainstOthers 37 = .ok (.istore 5, 2) := by decide +kernel
theorem dX0_fillAgainstOthers_39 : decode cX0_fillAgainstOthers 39 = .ok (.aload_n 0, 1) := by decide +kernel
theorem dX0_fillAgainstOthers_40 : decode cX0_fillAgainstOthers 40 = .ok (.getfield 51, 3) := by decide +kernel
theorem dX0_fillAgainstOthers_43 : decode cX0_fillAgainstOthers 43 = .ok (.getfield 63, 3) := by decide +kernel
theorem dX0_fillAgainstOthers_46 : decode cX0_fillAgainstOthers 46 = .ok (.iload_n 2, 1) := by decide +kernel
theorem dX0_fillAgainstOthers_47 : decode cX0_fillAgainstOthers 47 = .ok (.iload 4, 2) := by decide +kernel
theorem dX0_fillAgainstOthers_49 : decode cX0_fillAgainstOthers 49 = .ok (.invokevirtual 111, 3) := by decide +kernel
theorem dX0_fillAgainstOthers_52 : decode cX0_fillAgainstOthers 52 = .ok (.i2l, 1) := by decide +kernel
theorem dX0_fillAgainstOthers_53 : decode cX0_fillAgainstOthers 53 = .ok (.lstore 6, 2) := by decide +kernel
theorem dX0_fillAgainstOthers_55 : decode cX0_fillAgainstOthers 55 = .ok (.iconst 0, 1) := by decide +kernel
theorem dX0_fillAgainstOthers_56 : decode cX0_fillAgainstOthers 56 = .ok (.istore 8, 2) := by decide +kernel
theorem dX0_fillAgainstOthers_58 : decode cX0_fillAgainstOthers 58 = .ok (.iload 8, 2) := by decide +kernel
theorem dX0_fillAgainstOthers_60 : decode cX0_fillAgainstOthers 60 = .ok (.aload_n 0, 1) := by decide +kernel
theorem dX0_fillAgainstOthers_61 : decode cX0_fillAgainstOthers 61 = .ok (.getfield 51, 3) := by decide +kernel
theorem dX0_fillAgainstOthers_64 : decode cX0_fillAgainstOthers 64 = .ok (.getfield 63, 3) := by decide +kernel
theorem dX0_fillAgainstOthers_67 : decode cX0_fillAgainstOthers 67 = .ok (.getfield 130, 3) := by decide +kernel
theorem dX0_fillAgainstOthers_70 : decode cX0_fillAgainstOthers 70 = .ok (.if_icmp .ge 35, 3) := by decide +kernel
theorem dX0_fillAgainstOthers_73 : decode cX0_fillAgainstOthers 73 = .ok (.aload_n 0, 1) := by decide +kernel
theorem dX0_fillAgainstOthers_74 : decode cX0_fillAgainstOthers 74 = .ok (.getfield 51, 3) := by decide +kernel
theorem dX0_fillAgainstOthers_77 : decode cX0_fillAgainstOthers 77 = .ok (.getfield 155, 3) := by decide +kernel
theorem dX0_fillAgainstOthers_80 : decode cX0_fillAgainstOthers 80 = .ok (.iload 8, 2) := by decide +kernel
theorem dX0_fillAgainstOthers_82 : decode cX0_fillAgainstOthers 82 = .ok (.iload 5, 2) := by decide +kernel
theorem dX0_fillAgainstOthers_84 : decode cX0_fillAgainstOthers 84 = .ok (.aload_n 0, 1) := by decide +kernel
theorem dX0_fillAgainstOthers_85 : decode cX0_fillAgainstOthers 85 = .ok (.getfield 44, 3) := by decide +kernel
theorem dX0_fillAgainstOthers_88 : decode cX0_fillAgainstOthers 88 = .ok (.iload 8, 2) := by decide +kernel
theorem dX0_fillAgainstOthers_90 : decode cX0_fillAgainstOthers 90 = .ok (.invokestatic 152, 3) := by decide +kernel
theorem dX0_fillAgainstOthers_93 : decode cX0_fillAgainstOthers 93 = .ok (.invokestatic 114, 3) := by decide +kernel
theorem dX0_fillAgainstOthers_96 : decode cX0_fillAgainstOthers 96 = .ok (.invokestatic 142, 3) := by decide +kernel
theorem dX0_fillAgainstOthers_99 : decode cX0_fillAgainstOthers 99 = .ok (.iinc 8 1, 3) := by decide +kernel
theorem dX0_fillAgainstOthers_102 : decode cX0_fillAgainstOthers 102 = .ok (.goto (-44), 3) := by decide +kernel
theorem dX0_fillAgainstOthers_105 : decode cX0_fillAgainstOthers 105 = .ok (.iconst 0, 1) := by decide +kernel
theorem dX0_fillAgainstOthers_106 : decode cX0_fillAgainstOthers 106 = .ok (.istore 8, 2) := by decide +kernel
theorem dX0_fillAgainstOthers_108 : decode cX0_fillAgainstOthers 108 = .ok (.iload 8, 2) := by decide +kernel
theorem dX0_fillAgainstOthers_110 : decode cX0_fillAgainstOthers 110 = .ok (.iload 5, 2) := by decide +kernel
theorem dX0_fillAgainstOthers_112 : decode cX0_fillAgainstOthers 112 = .ok (.iload_n 3, 1) := by decide +kernel
theorem dX0_fillAgainstOthers_113 : decode cX0_fillAgainstOthers 113 = .ok (.invokestatic 114, 3) := by decide +kernel
theorem dX0_fillAgainstOthers_116 : decode cX0_fillAgainstOthers 116 = .ok (.if_icmp .gt 61, 3) := by decide +kernel
theorem dX0_fillAgainstOthers_119 : decode cX0_fillAgainstOthers 119 = .ok (.aload_n 0, 1) := by decide +kernel
theorem dX0_fillAgainstOthers_120 : decode cX0_fillAgainstOthers 120 = .ok (.getfield 51, 3) := by decide +kernel
theorem dX0_fillAgainstOthers_123 : decode cX0_fillAgainstOthers 123 = .ok (.getfield 155, 3) := by decide +kernel
theorem dX0_fillAgainstOthers_126 : decode cX0_fillAgainstOthers 126 = .ok (.iload_n 1, 1) := by decide +kernel
theorem dX0_fillAgainstOthers_127 : decode cX0_fillAgainstOthers 127 = .ok (.iload 8, 2) := by decide +kernel
theorem dX0_fillAgainstOthers_129 : decode cX0_fillAgainstOthers 129 = .ok (.invokestatic 142, 3) := by decide +kernel
theorem dX0_fillAgainstOthers_132 : decode cX0_fillAgainstOthers 132 = .ok (.lload 6, 2) := by decide +kernel
theorem dX0_fillAgainstOthers_134 : decode cX0_fillAgainstOthers 134 = .ok (.aload_n 0, 1) := by decide +kernel
theorem dX0_fillAgainstOthers_135 : decode cX0_fillAgainstOthers 135 = .ok (.getfield 51, 3) := by decide +kernel
theorem dX0_fillAgainstOthers_138 : decode cX0_fillAgainstOthers 138 = .ok (.iload_n 1, 1) := by decide +kernel
theorem dX0_fillAgainstOthers_139 : decode cX0_fillAgainstOthers 139 = .ok (.iload_n 2, 1) := by decide +kernel
theorem dX0_fillAgainstOthers_140 : decode cX0_fillAgainstOthers 140 = .ok (.iload 5, 2) := by decide +kernel
theorem dX0_fillAgainstOthers_142 : decode cX0_fillAgainstOthers 142 = .ok (.invokevirtual 158, 3) := by decide +kernel
theorem dX0_fillAgainstOthers_145 : decode cX0_fillAgainstOthers 145 = .ok (.i2l, 1) := by decide +kernel
theorem dX0_fillAgainstOthers_146 : decode cX0_fillAgainstOthers 146 = .ok (.lmul, 1) := by decide +kernel
theorem dX0_fillAgainstOthers_147 : decode cX0_fillAgainstOthers 147 = .ok (.lstore 9, 2) := by decide +kernel
theorem dX0_fillAgainstOthers_149 : decode cX0_fillAgainstOthers 149 = .ok (.aload_n 0, 1) := by decide +kernel
theorem dX0_fillAgainstOthers_150 : decode cX0_fillAgainstOthers 150 = .ok (.iconst 0, 1) := by decide +kernel
theorem dX0_fillAgainstOthers_151 : decode cX0_fillAgainstOthers 151 = .ok (.iload 8, 2) := by decide +kernel
theorem dX0_fillAgainstOthers_153 : decode cX0_fillAgainstOthers 153 = .ok (.iload 8, 2) := by decide +kernel
theorem dX0_fillAgainstOthers_155 : decode cX0_fillAgainstOthers 155 = .ok (.iload 5, 2) := by decide +kernel
theorem dX0_fillAgainstOthers_157 : decode cX0_fillAgainstOthers 157 = .ok (.if_icmp .ne 7, 3) := by decide +kernel
theorem dX0_fillAgainstOthers_160 : decode cX0_fillAgainstOthers 160 = .ok (.iload_n 3, 1) := by decide +kernel
theorem dX0_fillAgainstOthers_161 : decode cX0_fillAgainstOthers 161 = .ok (.goto 5, 3) := by decide +kernel
theorem dX0_fillAgainstOthers_164 : decode cX0_fillAgainstOthers 164 = .ok (.iload 8, 2) := by decide +kernel
theorem dX0_fillAgainstOthers_166 : decode cX0_fillAgainstOthers 166 = .ok (.lload 9, 2) := by decide +kernel
theorem dX0_fillAgainstOthers_168 : decode cX0_fillAgainstOthers 168 = .ok (.invokevirtual 126, 3) := by decide +kernel
theorem dX0_fillAgainstOthers_171 : decode cX0_fillAgainstOthers 171 = .ok (.iinc 8 1, 3) := by decide +kernel
theorem dX0_fillAgainstOthers_174 : decode cX0_fillAgainstOthers 174 = .ok (.goto (-66), 3) := by decide +kernel
theorem dX0_fillAgainstOthers_177 : decode cX0_fillAgainstOthers 177 = .ok (.iinc 4 1, 3) := by decide +kernel
theorem dX0_fillAgainstOthers_180 : decode cX0_fillAgainstOthers 180 = .ok (.goto (-172), 3) := by decide +kernel
theorem dX0_fillAgainstOthers_183 : decode cX0_fillAgainstOthers 183 = .ok (.return_, 1) := by decide +kernel
def fX0_fillAgainstOthers_167 (r8 : Int32 → Int32 → Int32 → Int32 → zS → Option zS) (r108 : Int32 → Int32 → Int32 → Int32 → Int32 → Int64 → Int32 → zS → Option zS) (x1 : Int32) (x2 : Int32) (x3 : Int32) (x4 : Int32) (x5 : Int32) (x6 : Int64) (x8 : Int32) (x9 : Int64) (s0 : Int32) (s1 : Int32) (s2 : Int32) (σ : zS) : Option zS := bnr (fX0_addToSeconds s2 s1 s0 x9 σ) fun σ12 => r108 x1 x2 x3 x4 x5 x6 (x8 + 1) σ12
theorem kX0_fillAgainstOthers_166 {sc : Nat × (Nat → Int32)} (r8 : Int32 → Int32 → Int32 → Int32 → zS → Option zS) (r108 : Int32 → Int32 → Int32 → Int32 → Int32 → Int64 → Int32 → zS → Option zS) (hr8 : ∀ (x1 : Int32) (x2 : Int32) (x3 : Int32) (x4 : Int32) (σ : zS) (w : zS), r8 x1 x2 x3 x4 σ = some w → zR (zY0 sc) 5 0 0 mX0_fillAgainstOthers 8 [(0, .ref 27), (1, .int x1), (2, .int x2), (3, .int x3), (4, .int x4)] [] (zE σ) (none, zE w)) (hr108 : ∀ (x1 : Int32) (x2 : Int32) (x3 : Int32) (x4 : Int32) (x5 : Int32) (x6 : Int64) (x8 : Int32) (σ : zS) (w : zS), r108 x1 x2 x3 x4 x5 x6 x8 σ = some w → zR (zY0 sc) 5 0 0 mX0_fillAgainstOthers 108 [(0, .ref 27), (1, .int x1), (2, .int x2), (3, .int x3), (4, .int x4), (5, .int x5), (6, .long x6), (8, .int x8)] [] (zE σ) (none, zE w)) (x1 : Int32) (x2 : Int32) (x3 : Int32) (x4 : Int32) (x5 : Int32) (x6 : Int64) (x8 : Int32) (x9 : Int64) (s0 : Int32) (s1 : Int32) (s2 : Int32) (σ : zS) (w : zS) (h : fX0_fillAgainstOthers_167 r8 r108 x1 x2 x3 x4 x5 x6 x8 x9 s0 s1 s2 σ = some w) : zR (zY0 sc) 5 0 0 mX0_fillAgainstOthers 166 [(0, .ref 27), (1, .int x1), (2, .int x2), (3, .int x3), (4, .int x4), (5, .int x5), (6, .long x6), (8, .int x8), (9, .long x9)] [.int s0, .int s1, .int s2, .ref 27] (zE σ) (none, zE w) := by
  unfold fX0_fillAgainstOthers_167 at h
  refine kR.lload dX0_fillAgainstOthers_166 8 rfl ?_
  obtain ⟨σ12, e13, h⟩ := bnr_some h
  refine kR.cVv [.int s2, .int s1, .int s0, .long x9] dX0_fillAgainstOthers_168 rfl (by decide) mwX0_126 zp27 (by decide) rfl rfl (Nat.le_of_ble_eq_true rfl) (lX0_addToSeconds s2 s1 s0 x9 σ _ e13) ?_
  refine zR.iinc 7 (v := x8 + 1) (ls' := [(8, .int (x8 + 1)), (0, .ref 27), (1, .int x1), (2, .int x2), (3, .int x3), (4, .int x4), (5, .int x5), (6, .long x6), (9, .long x9)]) dX0_fillAgainstOthers_171 rfl rfl (by decide) rfl ?_
  refine zR.goto (tgt := 108) dX0_fillAgainstOthers_174 (by decide) ?_
  refine zR.sub [1, 2, 3, 4, 5, 6, 7, 0] rfl ?_
  exact hr108 _ _ _ _ _ _ _ _ _ h
def fX0_fillAgainstOthers_111 (r8 : Int32 → Int32 → Int32 → Int32 → zS → Option zS) : Nat → Int32 → Int32 → Int32 → Int32 → Int32 → Int64 → Int32 → zS → Option zS
  | 0, _, _, _, _, _, _, _, _ => none
  | f + 1, x1, x2, x3, x4, x5, x6, x8, σ => if (fJ9_min_7cf53 x5 x3) < x8 then r8 x1 x2 x3 (x4 + 1) σ else wI σ 25 6 x1 x8 fun σ8 => bnc (fX4_worthAmong x1 x2 x5 σ8) fun v11 σ9 => if x8 = x5 then fX0_fillAgainstOthers_167 r8 (fX0_fillAgainstOthers_111 r8 f) x1 x2 x3 x4 x5 x6 x8 (x6 * v11.toInt64) x3 x8 0 σ9 else fX0_fillAgainstOthers_167 r8 (fX0_fillAgainstOthers_111 r8 f) x1 x2 x3 x4 x5 x6 x8 (x6 * v11.toInt64) x8 x8 0 σ9
theorem kX0_fillAgainstOthers_108 {sc : Nat × (Nat → Int32)} (r8 : Int32 → Int32 → Int32 → Int32 → zS → Option zS) (hr8 : ∀ (x1 : Int32) (x2 : Int32) (x3 : Int32) (x4 : Int32) (σ : zS) (w : zS), r8 x1 x2 x3 x4 σ = some w → zR (zY0 sc) 5 0 0 mX0_fillAgainstOthers 8 [(0, .ref 27), (1, .int x1), (2, .int x2), (3, .int x3), (4, .int x4)] [] (zE σ) (none, zE w)) : ∀ (fuel : Nat) (x1 : Int32) (x2 : Int32) (x3 : Int32) (x4 : Int32) (x5 : Int32) (x6 : Int64) (x8 : Int32) (σ : zS) (w : zS) (h : fX0_fillAgainstOthers_111 r8 fuel x1 x2 x3 x4 x5 x6 x8 σ = some w), zR (zY0 sc) 5 0 0 mX0_fillAgainstOthers 108 [(0, .ref 27), (1, .int x1), (2, .int x2), (3, .int x3), (4, .int x4), (5, .int x5), (6, .long x6), (8, .int x8)] [] (zE σ) (none, zE w) := by
  intro fuel
  induction fuel with
  | zero => intro x1 x2 x3 x4 x5 x6 x8 σ w h; exact nomatch h
  | succ f ih =>
    intro x1 x2 x3 x4 x5 x6 x8 σ w h
    rw [fX0_fillAgainstOthers_111] at h
    refine kR.iload dX0_fillAgainstOthers_108 7 rfl ?_
    refine kR.iload dX0_fillAgainstOthers_110 5 rfl ?_
    refine kR.iload_n dX0_fillAgainstOthers_112 3 rfl ?_
    refine kR.cSi [.int x5, .int x3] dX0_fillAgainstOthers_113 rfl (by decide) (Or.inl mwX0_114) rfl (Nat.le_of_ble_eq_true rfl) (lJ9_min_7cf53 x5 x3) ?_
    refine kR.icmp_gt (tgt := 177) dX0_fillAgainstOthers_116 (by decide) h (fun h => ?_) (fun h => ?_)
    · refine zR.iinc 4 (v := x4 + 1) (ls' := [(4, .int (x4 + 1)), (0, .ref 27), (1, .int x1), (2, .int x2), (3, .int x3), (5, .int x5), (6, .long x6), (8, .int x8)]) dX0_fillAgainstOthers_177 rfl rfl (by decide) rfl ?_
      refine zR.goto (tgt := 8) dX0_fillAgainstOthers_180 (by decide) ?_
      refine zR.sub [1, 2, 3, 4, 0] rfl ?_
      exact hr8 _ _ _ _ _ _ h
    · refine kR.aload_n dX0_fillAgainstOthers_119 0 rfl ?_
      refine kR.getR (v := 8) dX0_fillAgainstOthers_120 flX0_51 zcf0 zp27 (Or.inl ⟨_, rfl⟩) rfl ?_
      refine kR.getR (v := 25) dX0_fillAgainstOthers_123 flX0_155 zcf4 zp8 (Or.inr ⟨_, rfl⟩) rfl ?_
      refine kR.iload_n dX0_fillAgainstOthers_126 1 rfl ?_
      refine kR.iload dX0_fillAgainstOthers_127 7 rfl ?_
      obtain ⟨σ8, e0, h⟩ := wIv (Nat.le_of_ble_eq_true rfl) h
      refine kR.cSv [.ref 25, .int x1, .int x8] dX0_fillAgainstOthers_129 rfl (by decide) (Or.inr mwX0_142) rfl (Nat.le_of_ble_eq_true rfl) (lX10_setAt 25 6 (fun _ => zp25) rfl (Nat.le_of_ble_eq_true rfl) x1 x8 σ _ e0) ?_
      refine kR.lload dX0_fillAgainstOthers_132 6 rfl ?_
      refine kR.aload_n dX0_fillAgainstOthers_134 0 rfl ?_
      refine kR.getR (v := 8) dX0_fillAgainstOthers_135 flX0_51 zcf0 zp27 (Or.inl ⟨_, rfl⟩) rfl ?_
      refine kR.iload_n dX0_fillAgainstOthers_138 1 rfl ?_
      refine kR.iload_n dX0_fillAgainstOthers_139 2 rfl ?_
      refine kR.iload dX0_fillAgainstOthers_140 5 rfl ?_
      obtain ⟨v11, σ9, e10, h⟩ := bnc_some h
      refine kR.cVi [.int x1, .int x2, .int x5] dX0_fillAgainstOthers_142 rfl (by decide) mwX0_158 zp8 (by decide) rfl rfl (Nat.le_of_ble_eq_true rfl) (lX4_worthAmong x1 x2 x5 σ8 _ e10) ?_
      refine zR.i2l dX0_fillAgainstOthers_145 ?_
      refine zR.lmul dX0_fillAgainstOthers_146 ?_
      refine zR.lstore (i := 9) (ls' := [(9, .long (x6 * v11.toInt64)), (0, .ref 27), (1, .int x1), (2, .int x2), (3, .int x3), (4, .int x4), (5, .int x5), (6, .long x6), (8, .int x8)]) dX0_fillAgainstOthers_147 (by decide) rfl ?_
      refine kR.aload_n dX0_fillAgainstOthers_149 1 rfl ?_
      refine zR.iconst (v := 0) dX0_fillAgainstOthers_150 (by decide) ?_
      refine kR.iload dX0_fillAgainstOthers_151 8 rfl ?_
      refine kR.iload dX0_fillAgainstOthers_153 8 rfl ?_
      refine kR.iload dX0_fillAgainstOthers_155 6 rfl ?_
      refine kR.icmp_ne (tgt := 164) dX0_fillAgainstOthers_157 (by decide) h (fun h => ?_) (fun h => ?_)
      · refine kR.iload dX0_fillAgainstOthers_164 8 rfl ?_
        refine zR.sub [1, 2, 3, 4, 5, 6, 7, 8, 0] rfl ?_
        exact kX0_fillAgainstOthers_166 r8 (fX0_fillAgainstOthers_111 r8 f) hr8 ih _ _ _ _ _ _ _ _ _ _ _ _ _ h
      · refine kR.iload_n dX0_fillAgainstOthers_160 4 rfl ?_
        refine zR.goto (tgt := 166) dX0_fillAgainstOthers_161 (by decide) ?_
        refine zR.sub [1, 2, 3, 4, 5, 6, 7, 8, 0] rfl ?_
        exact kX0_fillAgainstOthers_166 r8 (fX0_fillAgainstOthers_111 r8 f) hr8 ih _ _ _ _ _ _ _ _ _ _ _ _ _ h
def fX0_fillAgainstOthers_65 (r8 : Int32 → Int32 → Int32 → Int32 → zS → Option zS) : Nat → Int32 → Int32 → Int32 → Int32 → Int32 → Int64 → Int32 → zS → Option zS
  | 0, _, _, _, _, _, _, _, _ => none
  | f + 1, x1, x2, x3, x4, x5, x6, x8, σ => if (iG σ (rp σ.2.2.2.1 + 0) 2) ≤ x8 then fX0_fillAgainstOthers_111 r8 zF x1 x2 x3 x4 x5 x6 0 σ else aI σ 31 6 x8 fun v14 => wI σ 25 6 x8 (fJ9_min_7cf53 x5 v14) fun σ15 => fX0_fillAgainstOthers_65 r8 f x1 x2 x3 x4 x5 x6 (x8 + 1) σ15
theorem kX0_fillAgainstOthers_58 {sc : Nat × (Nat → Int32)} (r8 : Int32 → Int32 → Int32 → Int32 → zS → Option zS) (hr8 : ∀ (x1 : Int32) (x2 : Int32) (x3 : Int32) (x4 : Int32) (σ : zS) (w : zS), r8 x1 x2 x3 x4 σ = some w → zR (zY0 sc) 5 0 0 mX0_fillAgainstOthers 8 [(0, .ref 27), (1, .int x1), (2, .int x2), (3, .int x3), (4, .int x4)] [] (zE σ) (none, zE w)) : ∀ (fuel : Nat) (x1 : Int32) (x2 : Int32) (x3 : Int32) (x4 : Int32) (x5 : Int32) (x6 : Int64) (x8 : Int32) (σ : zS) (w : zS) (h : fX0_fillAgainstOthers_65 r8 fuel x1 x2 x3 x4 x5 x6 x8 σ = some w), zR (zY0 sc) 5 0 0 mX0_fillAgainstOthers 58 [(0, .ref 27), (1, .int x1), (2, .int x2), (3, .int x3), (4, .int x4), (5, .int x5), (6, .long x6), (8, .int x8)] [] (zE σ) (none, zE w) := by
  intro fuel
  induction fuel with
  | zero => intro x1 x2 x3 x4 x5 x6 x8 σ w h; exact nomatch h
  | succ f ih =>
    intro x1 x2 x3 x4 x5 x6 x8 σ w h
    rw [fX0_fillAgainstOthers_65] at h
    refine kR.iload dX0_fillAgainstOthers_58 7 rfl ?_
    refine kR.aload_n dX0_fillAgainstOthers_60 0 rfl ?_
    refine kR.getR (v := 8) dX0_fillAgainstOthers_61 flX0_51 zcf0 zp27 (Or.inl ⟨_, rfl⟩) rfl ?_
    refine kR.getR (v := (rp σ.2.2.2.1 + 0)) dX0_fillAgainstOthers_64 flX0_63 zcf4 zp8 (Or.inl ⟨_, rfl⟩) rfl ?_
    refine kR.getI dX0_fillAgainstOthers_67 flX0_130 zcf6 (zq0 σ.2.2.2.1) (Or.inl rfl) ?_
    refine kR.icmp_ge (tgt := 105) dX0_fillAgainstOthers_70 (by decide) h (fun h => ?_) (fun h => ?_)
    · refine zR.iconst (v := 0) dX0_fillAgainstOthers_105 (by decide) ?_
      refine zR.istore (i := 8) (ls' := [(8, .int 0), (0, .ref 27), (1, .int x1), (2, .int x2), (3, .int x3), (4, .int x4), (5, .int x5), (6, .long x6)]) dX0_fillAgainstOthers_106 (by decide) rfl ?_
      refine zR.sub [1, 2, 3, 4, 5, 6, 7, 0] rfl ?_
      exact kX0_fillAgainstOthers_108 r8 hr8 zF _ _ _ _ _ _ _ _ _ h
    · refine kR.aload_n dX0_fillAgainstOthers_73 0 rfl ?_
      refine kR.getR (v := 8) dX0_fillAgainstOthers_74 flX0_51 zcf0 zp27 (Or.inl ⟨_, rfl⟩) rfl ?_
      refine kR.getR (v := 25) dX0_fillAgainstOthers_77 flX0_155 zcf4 zp8 (Or.inr ⟨_, rfl⟩) rfl ?_
      refine kR.iload dX0_fillAgainstOthers_80 7 rfl ?_
      refine kR.iload dX0_fillAgainstOthers_82 5 rfl ?_
      refine kR.aload_n dX0_fillAgainstOthers_84 0 rfl ?_
      refine kR.getR (v := 31) dX0_fillAgainstOthers_85 flX0_44 zcf0 zp27 (Or.inr ⟨_, rfl⟩) rfl ?_
      refine kR.iload dX0_fillAgainstOthers_88 7 rfl ?_
      obtain ⟨v14, e0, h⟩ := aIv (Nat.le_of_ble_eq_true rfl) h
      refine kR.cSi [.ref 31, .int x8] dX0_fillAgainstOthers_90 rfl (by decide) (Or.inr mwX0_152) rfl (Nat.le_of_ble_eq_true rfl) (lX10_valueAt 31 6 σ (fun _ => zp31) rfl (Nat.le_of_ble_eq_true rfl) x8 _ e0) ?_
      refine kR.cSi [.int x5, .int v14] dX0_fillAgainstOthers_93 rfl (by decide) (Or.inl mwX0_114) rfl (Nat.le_of_ble_eq_true rfl) (lJ9_min_7cf53 x5 v14) ?_
      obtain ⟨σ15, e0, h⟩ := wIv (Nat.le_of_ble_eq_true rfl) h
      refine kR.cSv [.ref 25, .int x8, .int (fJ9_min_7cf53 x5 v14)] dX0_fillAgainstOthers_96 rfl (by decide) (Or.inr mwX0_142) rfl (Nat.le_of_ble_eq_true rfl) (lX10_setAt 25 6 (fun _ => zp25) rfl (Nat.le_of_ble_eq_true rfl) x8 (fJ9_min_7cf53 x5 v14) σ _ e0) ?_
      refine zR.iinc 7 (v := x8 + 1) (ls' := [(8, .int (x8 + 1)), (0, .ref 27), (1, .int x1), (2, .int x2), (3, .int x3), (4, .int x4), (5, .int x5), (6, .long x6)]) dX0_fillAgainstOthers_99 rfl rfl (by decide) rfl ?_
      refine zR.goto (tgt := 58) dX0_fillAgainstOthers_102 (by decide) ?_
      refine zR.sub [1, 2, 3, 4, 5, 6, 7, 0] rfl ?_
      exact ih _ _ _ _ _ _ _ _ _ h
def fX0_fillAgainstOthers_14 : Nat → Int32 → Int32 → Int32 → Int32 → zS → Option zS
  | 0, _, _, _, _, _ => none
  | f + 1, x1, x2, x3, x4, σ => aI σ (rp σ.2.2.2.1 + 3) 6 x2 fun v3 => if v3 ≤ x4 then some σ else bnr (fX6_lengthAt σ.2.2.2.1 σ x2 x4) fun v4 => bnr (fX6_weightAt σ.2.2.2.1 σ x2 x4) fun v6 => fX0_fillAgainstOthers_65 (fX0_fillAgainstOthers_14 f) zF x1 x2 x3 x4 v4 v6.toInt64 0 σ
theorem kX0_fillAgainstOthers_8 {sc : Nat × (Nat → Int32)} : ∀ (fuel : Nat) (x1 : Int32) (x2 : Int32) (x3 : Int32) (x4 : Int32) (σ : zS) (w : zS) (h : fX0_fillAgainstOthers_14 fuel x1 x2 x3 x4 σ = some w), zR (zY0 sc) 5 0 0 mX0_fillAgainstOthers 8 [(0, .ref 27), (1, .int x1), (2, .int x2), (3, .int x3), (4, .int x4)] [] (zE σ) (none, zE w) := by
  intro fuel
  induction fuel with
  | zero => intro x1 x2 x3 x4 σ w h; exact nomatch h
  | succ f ih =>
    intro x1 x2 x3 x4 σ w h
    rw [fX0_fillAgainstOthers_14] at h
    refine kR.iload dX0_fillAgainstOthers_8 4 rfl ?_
    refine kR.aload_n dX0_fillAgainstOthers_10 0 rfl ?_
    refine kR.getR (v := 8) dX0_fillAgainstOthers_11 flX0_51 zcf0 zp27 (Or.inl ⟨_, rfl⟩) rfl ?_
    refine kR.getR (v := (rp σ.2.2.2.1 + 0)) dX0_fillAgainstOthers_14 flX0_63 zcf4 zp8 (Or.inl ⟨_, rfl⟩) rfl ?_
    refine kR.iload_n dX0_fillAgainstOthers_17 2 rfl ?_
    obtain ⟨v3, e0, h⟩ := aIlc h
    refine kR.cVi [.int x2] dX0_fillAgainstOthers_18 rfl (by decide) mwX0_101 (zq0 σ.2.2.2.1) (by decide) rfl rfl (Nat.le_of_ble_eq_true rfl) (lX6_lengthCount σ.2.2.2.1 σ x2 _ e0) ?_
    refine kR.icmp_ge (tgt := 183) dX0_fillAgainstOthers_21 (by decide) h (fun h => ?_) (fun h => ?_)
    · exact kR.vret dX0_fillAgainstOthers_183 h
    · refine kR.aload_n dX0_fillAgainstOthers_24 0 rfl ?_
      refine kR.getR (v := 8) dX0_fillAgainstOthers_25 flX0_51 zcf0 zp27 (Or.inl ⟨_, rfl⟩) rfl ?_
      refine kR.getR (v := (rp σ.2.2.2.1 + 0)) dX0_fillAgainstOthers_28 flX0_63 zcf4 zp8 (Or.inl ⟨_, rfl⟩) rfl ?_
      refine kR.iload_n dX0_fillAgainstOthers_31 2 rfl ?_
      refine kR.iload dX0_fillAgainstOthers_32 4 rfl ?_
      obtain ⟨v4, e5, h⟩ := bnr_some h
      refine kR.cVi [.int x2, .int x4] dX0_fillAgainstOthers_34 rfl (by decide) mwX0_108 (zq0 σ.2.2.2.1) (by decide) rfl rfl (Nat.le_of_ble_eq_true rfl) (lX6_lengthAt σ.2.2.2.1 σ x2 x4 _ e5) ?_
      refine zR.istore (i := 5) (ls' := [(5, .int v4), (0, .ref 27), (1, .int x1), (2, .int x2), (3, .int x3), (4, .int x4)]) dX0_fillAgainstOthers_37 (by decide) rfl ?_
      refine kR.aload_n dX0_fillAgainstOthers_39 1 rfl ?_
      refine kR.getR (v := 8) dX0_fillAgainstOthers_40 flX0_51 zcf0 zp27 (Or.inl ⟨_, rfl⟩) rfl ?_
      refine kR.getR (v := (rp σ.2.2.2.1 + 0)) dX0_fillAgainstOthers_43 flX0_63 zcf4 zp8 (Or.inl ⟨_, rfl⟩) rfl ?_
      refine kR.iload_n dX0_fillAgainstOthers_46 3 rfl ?_
      refine kR.iload dX0_fillAgainstOthers_47 5 rfl ?_
      obtain ⟨v6, e7, h⟩ := bnr_some h
      refine kR.cVi [.int x2, .int x4] dX0_fillAgainstOthers_49 rfl (by decide) mwX0_111 (zq0 σ.2.2.2.1) (by decide) rfl rfl (Nat.le_of_ble_eq_true rfl) (lX6_weightAt σ.2.2.2.1 σ x2 x4 _ e7) ?_
      refine zR.i2l dX0_fillAgainstOthers_52 ?_
      refine zR.lstore (i := 6) (ls' := [(6, .long (v6.toInt64)), (5, .int v4), (0, .ref 27), (1, .int x1), (2, .int x2), (3, .int x3), (4, .int x4)]) dX0_fillAgainstOthers_53 (by decide) rfl ?_
      refine zR.iconst (v := 0) dX0_fillAgainstOthers_55 (by decide) ?_
      refine zR.istore (i := 8) (ls' := [(8, .int 0), (6, .long (v6.toInt64)), (5, .int v4), (0, .ref 27), (1, .int x1), (2, .int x2), (3, .int x3), (4, .int x4)]) dX0_fillAgainstOthers_56 (by decide) rfl ?_
      refine zR.sub [3, 4, 5, 6, 7, 2, 1, 0] rfl ?_
      exact kX0_fillAgainstOthers_58 (fX0_fillAgainstOthers_14 f) ih zF _ _ _ _ _ _ _ _ _ h
def fX0_fillAgainstOthers (p1 : Int32) (p2 : Int32) (p3 : Int32) (σ : zS) : Option zS := bnr (fJ7_fill_bad5a 28 244 0 61 0 σ) fun σ1 => fX0_fillAgainstOthers_14 zF p1 p2 p3 0 σ1
theorem eX0_fillAgainstOthers {sc : Nat × (Nat → Int32)} (p1 : Int32) (p2 : Int32) (p3 : Int32) (σ : zS) (w : zS) (h : fX0_fillAgainstOthers p1 p2 p3 σ = some w) : zR (zY0 sc) 5 0 0 mX0_fillAgainstOthers 0 [(0, .ref 27), (1, .int p1), (2, .int p2), (3, .int p3)] [] (zE σ) (none, zE w) := by
  unfold fX0_fillAgainstOthers at h
  refine kR.aload_n dX0_fillAgainstOthers_0 0 rfl ?_
  refine zR.iconst (v := 0) dX0_fillAgainstOthers_1 (by decide) ?_
  obtain ⟨σ1, e2, h⟩ := bnr_some h
  refine kR.cVv [.int 0] dX0_fillAgainstOthers_2 rfl (by decide) mwX0_97 zp27 (by decide) rfl rfl (Nat.le_of_ble_eq_true rfl) (lX0_clearTotals 0 σ _ (clear_fill0 e2)) ?_
  refine zR.iconst (v := 0) dX0_fillAgainstOthers_5 (by decide) ?_
  refine zR.istore (i := 4) (ls' := [(4, .int 0), (0, .ref 27), (1, .int p1), (2, .int p2), (3, .int p3)]) dX0_fillAgainstOthers_6 (by decide) rfl ?_
  refine zR.sub [1, 2, 3, 4, 0] rfl ?_
  exact kX0_fillAgainstOthers_8 zF _ _ _ _ _ _ h
theorem lX0_fillAgainstOthers {sc : Nat × (Nat → Int32)} (p1 : Int32) (p2 : Int32) (p3 : Int32) (σ : zS) (w : zS) (h : fX0_fillAgainstOthers p1 p2 p3 σ = some w) : zC (zY0 sc) 5 0 0 mX0_fillAgainstOthers [.ref 27, .int p1, .int p2, .int p3] (zE σ) (none, zE w) := zC.of (by decide +kernel) (Nat.le_of_ble_eq_true rfl) rfl (eX0_fillAgainstOthers p1 p2 p3 σ w h)
theorem dX0_isAnyMoved_0 : decode cX0_isAnyMoved 0 = .ok (.iconst 0, 1) := by decide +kernel
theorem dX0_isAnyMoved_1 : decode cX0_isAnyMoved 1 = .ok (.istore_n 2, 1) := by decide +kernel
theorem dX0_isAnyMoved_2 : decode cX0_isAnyMoved 2 = .ok (.iconst 0, 1) := by decide +kernel
theorem dX0_isAnyMoved_3 : decode cX0_isAnyMoved 3 = .ok (.istore_n 3, 1) := by decide +kernel
theorem dX0_isAnyMoved_4 : decode cX0_isAnyMoved 4 = .ok (.iload_n 3, 1) := by decide +kernel
theorem dX0_isAnyMoved_5 : decode cX0_isAnyMoved 5 = .ok (.aload_n 0, 1) := by decide +kernel
theorem dX0_isAnyMoved_6 : decode cX0_isAnyMoved 6 = .ok (.getfield 51, 3) := by decide +kernel
theorem dX0_isAnyMoved_9 : decode cX0_isAnyMoved 9 = .ok (.getfield 63, 3) := by decide +kernel
theorem dX0_isAnyMoved_12 : decode cX0_isAnyMoved 12 = .ok (.getfield 130, 3) := by decide +kernel
theorem dX0_isAnyMoved_15 : decode cX0_isAnyMoved 15 = .ok (.if_icmp .ge 79, 3) := by decide +kernel
theorem dX0_isAnyMoved_18 : decode cX0_isAnyMoved 18 = .ok (.aload_n 0, 1) := by decide +kernel
theorem dX0_isAnyMoved_19 : decode cX0_isAnyMoved 19 = .ok (.getfield 51, 3) := by decide +kernel
theorem dX0_isAnyMoved_22 : decode cX0_isAnyMoved 22 = .ok (.getfield 133, 3) := by decide +kernel
theorem dX0_isAnyMoved_25 : decode cX0_isAnyMoved 25 = .ok (.iload_n 3, 1) := by decide +kernel
theorem dX0_isAnyMoved_26 : decode cX0_isAnyMoved 26 = .ok (.invokevirtual 137, 3) := by decide +kernel
theorem dX0_isAnyMoved_29 : decode cX0_isAnyMoved 29 = .ok (.istore 4, 2) := by decide +kernel
theorem dX0_isAnyMoved_31 : decode cX0_isAnyMoved 31 = .ok (.aload_n 0, 1) := by decide +kernel
theorem dX0_isAnyMoved_32 : decode cX0_isAnyMoved 32 = .ok (.iload_n 3, 1) := by decide +kernel
theorem dX0_isAnyMoved_33 : decode cX0_isAnyMoved 33 = .ok (.iload_n 1, 1) := by decide +kernel
theorem dX0_isAnyMoved_34 : decode cX0_isAnyMoved 34 = .ok (.iload 4, 2) := by decide +kernel
theorem dX0_isAnyMoved_36 : decode cX0_isAnyMoved 36 = .ok (.invokevirtual 149, 3) := by decide +kernel
theorem dX0_isAnyMoved_39 : decode cX0_isAnyMoved 39 = .ok (.aload_n 0, 1) := by decide +kernel
theorem dX0_isAnyMoved_40 : decode cX0_isAnyMoved 40 = .ok (.iconst 0, 1) := by decide +kernel
theorem dX0_isAnyMoved_41 : decode cX0_isAnyMoved 41 = .ok (.iload 4, 2) := by decide +kernel
theorem dX0_isAnyMoved_43 : decode cX0_isAnyMoved 43 = .ok (.invokevirtual 90, 3) := by decide +kernel
theorem dX0_isAnyMoved_46 : decode cX0_isAnyMoved 46 = .ok (.istore 5, 2) := by decide +kernel
theorem dX0_isAnyMoved_48 : decode cX0_isAnyMoved 48 = .ok (.aload_n 0, 1) := by decide +kernel
theorem dX0_isAnyMoved_49 : decode cX0_isAnyMoved 49 = .ok (.getfield 9, 3) := by decide +kernel
theorem dX0_isAnyMoved_52 : decode cX0_isAnyMoved 52 = .ok (.iload 5, 2) := by decide +kernel
theorem dX0_isAnyMoved_54 : decode cX0_isAnyMoved 54 = .ok (.invokestatic 59, 3) := by decide +kernel
theorem dX0_isAnyMoved_57 : decode cX0_isAnyMoved 57 = .ok (.aload_n 0, 1) := by decide +kernel
theorem dX0_isAnyMoved_58 : decode cX0_isAnyMoved 58 = .ok (.getfield 9, 3) := by decide +kernel
theorem dX0_isAnyMoved_61 : decode cX0_isAnyMoved 61 = .ok (.aload_n 0, 1) := by decide +kernel
theorem dX0_isAnyMoved_62 : decode cX0_isAnyMoved 62 = .ok (.getfield 44, 3) := by decide +kernel
theorem dX0_isAnyMoved_65 : decode cX0_isAnyMoved 65 = .ok (.iload_n 3, 1) := by decide +kernel
theorem dX0_isAnyMoved_66 : decode cX0_isAnyMoved 66 = .ok (.invokestatic 152, 3) := by decide +kernel
theorem dX0_isAnyMoved_69 : decode cX0_isAnyMoved 69 = .ok (.invokestatic 59, 3) := by decide +kernel
theorem dX0_isAnyMoved_72 : decode cX0_isAnyMoved 72 = .ok (.lcmp, 1) := by decide +kernel
theorem dX0_isAnyMoved_73 : decode cX0_isAnyMoved 73 = .ok (.ifCond .le 15, 3) := by decide +kernel
theorem dX0_isAnyMoved_76 : decode cX0_isAnyMoved 76 = .ok (.aload_n 0, 1) := by decide +kernel
theorem dX0_isAnyMoved_77 : decode cX0_isAnyMoved 77 = .ok (.getfield 44, 3) := by decide +kernel
theorem dX0_isAnyMoved_80 : decode cX0_isAnyMoved 80 = .ok (.iload_n 3, 1) := by decide +kernel
theorem dX0_isAnyMoved_81 : decode cX0_isAnyMoved 81 = .ok (.iload 5, 2) := by decide +kernel
theorem dX0_isAnyMoved_83 : decode cX0_isAnyMoved 83 = .ok (.invokestatic 142, 3) := by decide +kernel
theorem dX0_isAnyMoved_86 : decode cX0_isAnyMoved 86 = .ok (.iconst 1, 1) := by decide +kernel
theorem dX0_isAnyMoved_87 : decode cX0_isAnyMoved 87 = .ok (.istore_n 2, 1) := by decide +kernel
theorem dX0_isAnyMoved_88 : decode cX0_isAnyMoved 88 = .ok (.iinc 3 1, 3) := by decide +kernel
theorem dX0_isAnyMoved_91 : decode cX0_isAnyMoved 91 = .ok (.goto (-87), 3) := by decide +kernel
theorem dX0_isAnyMoved_94 : decode cX0_isAnyMoved 94 = .ok (.iload_n 2, 1) := by decide +kernel
theorem dX0_isAnyMoved_95 : decode cX0_isAnyMoved 95 = .ok (.ireturn, 1) := by decide +kernel
def fX0_isAnyMoved_80 (r4 : Int32 → Int32 → Int32 → zS → Option (Int32 × zS)) (x1 : Int32) (x2 : Int32) (x3 : Int32) (σ : zS) : Option (Int32 × zS) := r4 x1 x2 (x3 + 1) σ
theorem kX0_isAnyMoved_88 {sc : Nat × (Nat → Int32)} (r4 : Int32 → Int32 → Int32 → zS → Option (Int32 × zS)) (hr4 : ∀ (x1 : Int32) (x2 : Int32) (x3 : Int32) (σ : zS) (w : Int32 × zS), r4 x1 x2 x3 σ = some w → zR (zY0 sc) 6 0 0 mX0_isAnyMoved 4 [(0, .ref 27), (1, .int x1), (2, .int x2), (3, .int x3)] [] (zE σ) (some (.int w.1), zE w.2)) (x1 : Int32) (x2 : Int32) (x3 : Int32) (σ : zS) (w : Int32 × zS) (h : fX0_isAnyMoved_80 r4 x1 x2 x3 σ = some w) : zR (zY0 sc) 6 0 0 mX0_isAnyMoved 88 [(0, .ref 27), (1, .int x1), (2, .int x2), (3, .int x3)] [] (zE σ) (some (.int w.1), zE w.2) := by
  unfold fX0_isAnyMoved_80 at h
  refine zR.iinc 3 (v := x3 + 1) (ls' := [(3, .int (x3 + 1)), (0, .ref 27), (1, .int x1), (2, .int x2)]) dX0_isAnyMoved_88 rfl rfl (by decide) rfl ?_
  refine zR.goto (tgt := 4) dX0_isAnyMoved_91 (by decide) ?_
  refine zR.sub [1, 2, 3, 0] rfl ?_
  exact hr4 _ _ _ _ _ h
def fX0_isAnyMoved_4 : Nat → Int32 → Int32 → Int32 → zS → Option (Int32 × zS)
  | 0, _, _, _, _ => none
  | f + 1, x1, x2, x3, σ => if (iG σ (rp σ.2.2.2.1 + 0) 2) ≤ x3 then gd (x2 = 0 ∨ x2 = 1) (some (x2, σ)) else bnr (fX7_breathOf σ x3) fun v1 => bnr (fX0_fillAgainstOthers x3 x1 v1 σ) fun σ3 => bnr (fX0_bestSecond σ3 0 v1) fun v5 => aL σ3 28 244 v5 fun v7 => aI σ3 31 6 x3 fun v8 => aL σ3 28 244 v8 fun v9 => if v7 ≤ v9 then fX0_isAnyMoved_80 (fX0_isAnyMoved_4 f) x1 x2 x3 σ3 else wI σ3 31 6 x3 v5 fun σ10 => fX0_isAnyMoved_80 (fX0_isAnyMoved_4 f) x1 1 x3 σ10
theorem kX0_isAnyMoved_4 {sc : Nat × (Nat → Int32)} : ∀ (fuel : Nat) (x1 : Int32) (x2 : Int32) (x3 : Int32) (σ : zS) (w : Int32 × zS) (h : fX0_isAnyMoved_4 fuel x1 x2 x3 σ = some w), zR (zY0 sc) 6 0 0 mX0_isAnyMoved 4 [(0, .ref 27), (1, .int x1), (2, .int x2), (3, .int x3)] [] (zE σ) (some (.int w.1), zE w.2) := by
  intro fuel
  induction fuel with
  | zero => intro x1 x2 x3 σ w h; exact nomatch h
  | succ f ih =>
    intro x1 x2 x3 σ w h
    rw [fX0_isAnyMoved_4] at h
    refine kR.iload_n dX0_isAnyMoved_4 3 rfl ?_
    refine kR.aload_n dX0_isAnyMoved_5 0 rfl ?_
    refine kR.getR (v := 8) dX0_isAnyMoved_6 flX0_51 zcf0 zp27 (Or.inl ⟨_, rfl⟩) rfl ?_
    refine kR.getR (v := (rp σ.2.2.2.1 + 0)) dX0_isAnyMoved_9 flX0_63 zcf4 zp8 (Or.inl ⟨_, rfl⟩) rfl ?_
    refine kR.getI dX0_isAnyMoved_12 flX0_130 zcf6 (zq0 σ.2.2.2.1) (Or.inl rfl) ?_
    refine kR.icmp_ge (tgt := 94) dX0_isAnyMoved_15 (by decide) h (fun h => ?_) (fun h => ?_)
    · refine kR.iload_n dX0_isAnyMoved_94 2 rfl ?_
      obtain ⟨gz, h⟩ := kR.guard h
      exact kR.iretW dX0_isAnyMoved_95 (nzZ rfl gz) h
    · refine kR.aload_n dX0_isAnyMoved_18 0 rfl ?_
      refine kR.getR (v := 8) dX0_isAnyMoved_19 flX0_51 zcf0 zp27 (Or.inl ⟨_, rfl⟩) rfl ?_
      refine kR.getR (v := 4) dX0_isAnyMoved_22 flX0_133 zcf4 zp8 (Or.inl ⟨_, rfl⟩) rfl ?_
      refine kR.iload_n dX0_isAnyMoved_25 3 rfl ?_
      obtain ⟨v1, e2, h⟩ := bnr_some h
      refine kR.cVi [.int x3] dX0_isAnyMoved_26 rfl (by decide) mwX0_137 zp4 (by decide) rfl rfl (Nat.le_of_ble_eq_true rfl) (lX7_breathOf σ x3 _ e2) ?_
      refine zR.istore (i := 4) (ls' := [(4, .int v1), (0, .ref 27), (1, .int x1), (2, .int x2), (3, .int x3)]) dX0_isAnyMoved_29 (by decide) rfl ?_
      refine kR.aload_n dX0_isAnyMoved_31 1 rfl ?_
      refine kR.iload_n dX0_isAnyMoved_32 4 rfl ?_
      refine kR.iload_n dX0_isAnyMoved_33 2 rfl ?_
      refine kR.iload dX0_isAnyMoved_34 0 rfl ?_
      obtain ⟨σ3, e4, h⟩ := bnr_some h
      refine kR.cVv [.int x3, .int x1, .int v1] dX0_isAnyMoved_36 rfl (by decide) mwX0_149 zp27 (by decide) rfl rfl (Nat.le_of_ble_eq_true rfl) (lX0_fillAgainstOthers x3 x1 v1 σ _ e4) ?_
      refine kR.aload_n dX0_isAnyMoved_39 1 rfl ?_
      refine zR.iconst (v := 0) dX0_isAnyMoved_40 (by decide) ?_
      refine kR.iload dX0_isAnyMoved_41 0 rfl ?_
      obtain ⟨v5, e6, h⟩ := bnr_some h
      refine kR.cVi [.int 0, .int v1] dX0_isAnyMoved_43 rfl (by decide) mwX0_90 zp27 (by decide) rfl rfl (Nat.le_of_ble_eq_true rfl) (lX0_bestSecond σ3 0 v1 _ e6) ?_
      refine zR.istore (i := 5) (ls' := [(5, .int v5), (4, .int v1), (0, .ref 27), (1, .int x1), (2, .int x2), (3, .int x3)]) dX0_isAnyMoved_46 (by decide) rfl ?_
      refine kR.aload_n dX0_isAnyMoved_48 2 rfl ?_
      refine kR.getR (v := 28) dX0_isAnyMoved_49 flX0_9 zcf0 zp27 (Or.inr ⟨_, rfl⟩) rfl ?_
      refine kR.iload dX0_isAnyMoved_52 0 rfl ?_
      obtain ⟨v7, e0, h⟩ := aLv (Nat.le_of_ble_eq_true rfl) h
      refine kR.cSl [.ref 28, .int v5] dX0_isAnyMoved_54 rfl (by decide) (Or.inr mwX0_59) rfl (Nat.le_of_ble_eq_true rfl) (lX10_valueAt_ 28 244 σ3 (fun _ => zp28) rfl (Nat.le_of_ble_eq_true rfl) v5 _ e0) ?_
      refine kR.aload_n dX0_isAnyMoved_57 2 rfl ?_
      refine kR.getR (v := 28) dX0_isAnyMoved_58 flX0_9 zcf0 zp27 (Or.inr ⟨_, rfl⟩) rfl ?_
      refine kR.aload_n dX0_isAnyMoved_61 2 rfl ?_
      refine kR.getR (v := 31) dX0_isAnyMoved_62 flX0_44 zcf0 zp27 (Or.inr ⟨_, rfl⟩) rfl ?_
      refine kR.iload_n dX0_isAnyMoved_65 5 rfl ?_
      obtain ⟨v8, e0, h⟩ := aIv (Nat.le_of_ble_eq_true rfl) h
      refine kR.cSi [.ref 31, .int x3] dX0_isAnyMoved_66 rfl (by decide) (Or.inr mwX0_152) rfl (Nat.le_of_ble_eq_true rfl) (lX10_valueAt 31 6 σ3 (fun _ => zp31) rfl (Nat.le_of_ble_eq_true rfl) x3 _ e0) ?_
      obtain ⟨v9, e0, h⟩ := aLv (Nat.le_of_ble_eq_true rfl) h
      refine kR.cSl [.ref 28, .int v8] dX0_isAnyMoved_69 rfl (by decide) (Or.inr mwX0_59) rfl (Nat.le_of_ble_eq_true rfl) (lX10_valueAt_ 28 244 σ3 (fun _ => zp28) rfl (Nat.le_of_ble_eq_true rfl) v8 _ e0) ?_
      refine kR.lcmp_le (tgt := 88) dX0_isAnyMoved_72 dX0_isAnyMoved_73 (by decide) h (fun h => ?_) (fun h => ?_)
      · refine zR.sub [2, 3, 4, 5] rfl ?_
        exact kX0_isAnyMoved_88 (fX0_isAnyMoved_4 f) ih _ _ _ _ _ h
      · refine kR.aload_n dX0_isAnyMoved_76 2 rfl ?_
        refine kR.getR (v := 31) dX0_isAnyMoved_77 flX0_44 zcf0 zp27 (Or.inr ⟨_, rfl⟩) rfl ?_
        refine kR.iload_n dX0_isAnyMoved_80 5 rfl ?_
        refine kR.iload dX0_isAnyMoved_81 0 rfl ?_
        obtain ⟨σ10, e0, h⟩ := wIv (Nat.le_of_ble_eq_true rfl) h
        refine kR.cSv [.ref 31, .int x3, .int v5] dX0_isAnyMoved_83 rfl (by decide) (Or.inr mwX0_142) rfl (Nat.le_of_ble_eq_true rfl) (lX10_setAt 31 6 (fun _ => zp31) rfl (Nat.le_of_ble_eq_true rfl) x3 v5 σ3 _ e0) ?_
        refine zR.iconst (v := 1) dX0_isAnyMoved_86 (by decide) ?_
        refine zR.istore_n (i := 2) (ls' := [(2, .int 1), (5, .int v5), (4, .int v1), (0, .ref 27), (1, .int x1), (3, .int x3)]) dX0_isAnyMoved_87 rfl (by decide) rfl ?_
        refine zR.sub [3, 4, 0, 5] rfl ?_
        exact kX0_isAnyMoved_88 (fX0_isAnyMoved_4 f) ih _ _ _ _ _ h
def fX0_isAnyMoved (p1 : Int32) (σ : zS) : Option (Int32 × zS) := fX0_isAnyMoved_4 zF p1 0 0 σ
theorem eX0_isAnyMoved {sc : Nat × (Nat → Int32)} (p1 : Int32) (σ : zS) (w : Int32 × zS) (h : fX0_isAnyMoved p1 σ = some w) : zR (zY0 sc) 6 0 0 mX0_isAnyMoved 0 [(0, .ref 27), (1, .int p1)] [] (zE σ) (some (.int w.1), zE w.2) := by
  unfold fX0_isAnyMoved at h
  refine zR.iconst (v := 0) dX0_isAnyMoved_0 (by decide) ?_
  refine zR.istore_n (i := 2) (ls' := [(2, .int 0), (0, .ref 27), (1, .int p1)]) dX0_isAnyMoved_1 rfl (by decide) rfl ?_
  refine zR.iconst (v := 0) dX0_isAnyMoved_2 (by decide) ?_
  refine zR.istore_n (i := 3) (ls' := [(3, .int 0), (2, .int 0), (0, .ref 27), (1, .int p1)]) dX0_isAnyMoved_3 rfl (by decide) rfl ?_
  refine zR.sub [2, 3, 1, 0] rfl ?_
  exact kX0_isAnyMoved_4 zF _ _ _ _ _ h
theorem lX0_isAnyMoved {sc : Nat × (Nat → Int32)} (p1 : Int32) (σ : zS) (w : Int32 × zS) (h : fX0_isAnyMoved p1 σ = some w) : zC (zY0 sc) 6 0 0 mX0_isAnyMoved [.ref 27, .int p1] (zE σ) (some (.int w.1), zE w.2) := zC.of (by decide +kernel) (Nat.le_of_ble_eq_true rfl) ⟨_, rfl⟩ (eX0_isAnyMoved p1 σ w h)
theorem dX0_settle_0 : decode cX0_settle 0 = .ok (.aload_n 0, 1) := by decide +kernel
theorem dX0_settle_1 : decode cX0_settle 1 = .ok (.getfield 41, 3) := by decide +kernel
theorem dX0_settle_4 : decode cX0_settle 4 = .ok (.iload_n 1, 1) := by decide +kernel
theorem dX0_settle_5 : decode cX0_settle 5 = .ok (.if_icmp .ne 4, 3) := by decide +kernel
theorem dX0_settle_8 : decode cX0_settle 8 = .ok (.return_, 1) := by decide +kernel
theorem dX0_settle_9 : decode cX0_settle 9 = .ok (.aload_n 0, 1) := by decide +kernel
theorem dX0_settle_10 : decode cX0_settle 10 = .ok (.iload_n 1, 1) := by decide +kernel
theorem dX0_settle_11 : decode cX0_settle 11 = .ok (.putfield 41, 3) := by decide +kernel
theorem dX0_settle_14 : decode cX0_settle 14 = .ok (.iconst 0, 1) := by decide +kernel
theorem dX0_settle_15 : decode cX0_settle 15 = .ok (.istore_n 2, 1) := by decide +kernel
theorem dX0_settle_16 : decode cX0_settle 16 = .ok (.iload_n 2, 1) := by decide +kernel
theorem dX0_settle_17 : decode cX0_settle 17 = .ok (.aload_n 0, 1) := by decide +kernel
theorem dX0_settle_18 : decode cX0_settle 18 = .ok (.getfield 51, 3) := by decide +kernel
theorem dX0_settle_21 : decode cX0_settle 21 = .ok (.getfield 63, 3) := by decide +kernel
theorem dX0_settle_24 : decode cX0_settle 24 = .ok (.getfield 130, 3) := by decide +kernel
theorem dX0_settle_27 : decode cX0_settle 27 = .ok (.if_icmp .ge 28, 3) := by decide +kernel
theorem dX0_settle_30 : decode cX0_settle 30 = .ok (.aload_n 0, 1) := by decide +kernel
theorem dX0_settle_31 : decode cX0_settle 31 = .ok (.getfield 44, 3) := by decide +kernel
theorem dX0_settle_34 : decode cX0_settle 34 = .ok (.iload_n 2, 1) := by decide +kernel
theorem dX0_settle_35 : decode cX0_settle 35 = .ok (.aload_n 0, 1) := by decide +kernel
theorem dX0_settle_36 : decode cX0_settle 36 = .ok (.getfield 51, 3) := by decide +kernel
theorem dX0_settle_39 : decode cX0_settle 39 = .ok (.getfield 133, 3) := by decide +kernel
theorem dX0_settle_42 : decode cX0_settle 42 = .ok (.iload_n 2, 1) := by decide +kernel
theorem dX0_settle_43 : decode cX0_settle 43 = .ok (.invokevirtual 137, 3) := by decide +kernel
theorem dX0_settle_46 : decode cX0_settle 46 = .ok (.invokestatic 142, 3) := by decide +kernel
theorem dX0_settle_49 : decode cX0_settle 49 = .ok (.iinc 2 1, 3) := by decide +kernel
theorem dX0_settle_52 : decode cX0_settle 52 = .ok (.goto (-36), 3) := by decide +kernel
theorem dX0_settle_55 : decode cX0_settle 55 = .ok (.aload_n 0, 1) := by decide +kernel
theorem dX0_settle_56 : decode cX0_settle 56 = .ok (.bipush 13, 2) := by decide +kernel
theorem dX0_settle_58 : decode cX0_settle 58 = .ok (.putfield 48, 3) := by decide +kernel
theorem dX0_settle_61 : decode cX0_settle 61 = .ok (.iconst 1, 1) := by decide +kernel
theorem dX0_settle_62 : decode cX0_settle 62 = .ok (.istore_n 2, 1) := by decide +kernel
theorem dX0_settle_63 : decode cX0_settle 63 = .ok (.iload_n 2, 1) := by decide +kernel
theorem dX0_settle_64 : decode cX0_settle 64 = .ok (.bipush 12, 2) := by decide +kernel
theorem dX0_settle_66 : decode cX0_settle 66 = .ok (.if_icmp .gt 23, 3) := by decide +kernel
theorem dX0_settle_69 : decode cX0_settle 69 = .ok (.aload_n 0, 1) := by decide +kernel
theorem dX0_settle_70 : decode cX0_settle 70 = .ok (.iload_n 1, 1) := by decide +kernel
theorem dX0_settle_71 : decode cX0_settle 71 = .ok (.invokevirtual 145, 3) := by decide +kernel
theorem dX0_settle_74 : decode cX0_settle 74 = .ok (.ifCond .ne 9, 3) := by decide +kernel
theorem dX0_settle_77 : decode cX0_settle 77 = .ok (.aload_n 0, 1) := by decide +kernel
theorem dX0_settle_78 : decode cX0_settle 78 = .ok (.iload_n 2, 1) := by decide +kernel
theorem dX0_settle_79 : decode cX0_settle 79 = .ok (.putfield 48, 3) := by decide +kernel
theorem dX0_settle_82 : decode cX0_settle 82 = .ok (.return_, 1) := by decide +kernel
theorem dX0_settle_83 : decode cX0_settle 83 = .ok (.iinc 2 1, 3) := by decide +kernel
theorem dX0_settle_86 : decode cX0_settle 86 = .ok (.goto (-23), 3) := by decide +kernel
theorem dX0_settle_89 : decode cX0_settle 89 = .ok (.return_, 1) := by decide +kernel
def fX0_settle_61 : Nat → Int32 → Int32 → zS → Option zS
  | 0, _, _, _ => none
  | f + 1, x1, x2, σ => if 12 < x2 then some σ else bnc (fX0_isAnyMoved x1 σ) fun v5 σ3 => if v5 = 0 then bnd (iS σ3 27 12 x2) fun σ6 => some σ6 else fX0_settle_61 f x1 (x2 + 1) σ3
theorem kX0_settle_63 {sc : Nat × (Nat → Int32)} : ∀ (fuel : Nat) (x1 : Int32) (x2 : Int32) (σ : zS) (w : zS) (h : fX0_settle_61 fuel x1 x2 σ = some w), zR (zY0 sc) 7 0 0 mX0_settle 63 [(0, .ref 27), (1, .int x1), (2, .int x2)] [] (zE σ) (none, zE w) := by
  intro fuel
  induction fuel with
  | zero => intro x1 x2 σ w h; exact nomatch h
  | succ f ih =>
    intro x1 x2 σ w h
    rw [fX0_settle_61] at h
    refine kR.iload_n dX0_settle_63 2 rfl ?_
    refine zR.bipush (v := 12) dX0_settle_64 (by decide) ?_
    refine kR.icmp_gt (tgt := 89) dX0_settle_66 (by decide) h (fun h => ?_) (fun h => ?_)
    · exact kR.vret dX0_settle_89 h
    · refine kR.aload_n dX0_settle_69 0 rfl ?_
      refine kR.iload_n dX0_settle_70 1 rfl ?_
      obtain ⟨v5, σ3, e4, h⟩ := bnc_some h
      refine kR.cVi [.int x1] dX0_settle_71 rfl (by decide) mwX0_145 zp27 (by decide) rfl rfl (Nat.le_of_ble_eq_true rfl) (lX0_isAnyMoved x1 σ _ e4) ?_
      refine kR.if_ne (tgt := 83) dX0_settle_74 (by decide) h (fun h => ?_) (fun h => ?_)
      · refine zR.iinc 2 (v := x2 + 1) (ls' := [(2, .int (x2 + 1)), (0, .ref 27), (1, .int x1)]) dX0_settle_83 rfl rfl (by decide) rfl ?_
        refine zR.goto (tgt := 63) dX0_settle_86 (by decide) ?_
        refine zR.sub [1, 2, 0] rfl ?_
        exact ih _ _ _ _ h
      · refine kR.aload_n dX0_settle_77 0 rfl ?_
        refine kR.iload_n dX0_settle_78 2 rfl ?_
        refine kR.putI dX0_settle_79 fpX0_48 zcf0 zp27 rfl h (fun σ6 h => ?_)
        exact kR.vret dX0_settle_82 h
def fX0_settle_16 : Nat → Int32 → Int32 → zS → Option zS
  | 0, _, _, _ => none
  | f + 1, x1, x2, σ => if (iG σ (rp σ.2.2.2.1 + 0) 2) ≤ x2 then bnd (iS σ 27 12 13) fun σ2 => fX0_settle_61 zF x1 1 σ2 else bnr (fX7_breathOf σ x2) fun v7 => wI σ 31 6 x2 v7 fun σ9 => fX0_settle_16 f x1 (x2 + 1) σ9
theorem kX0_settle_16 {sc : Nat × (Nat → Int32)} : ∀ (fuel : Nat) (x1 : Int32) (x2 : Int32) (σ : zS) (w : zS) (h : fX0_settle_16 fuel x1 x2 σ = some w), zR (zY0 sc) 7 0 0 mX0_settle 16 [(0, .ref 27), (1, .int x1), (2, .int x2)] [] (zE σ) (none, zE w) := by
  intro fuel
  induction fuel with
  | zero => intro x1 x2 σ w h; exact nomatch h
  | succ f ih =>
    intro x1 x2 σ w h
    rw [fX0_settle_16] at h
    refine kR.iload_n dX0_settle_16 2 rfl ?_
    refine kR.aload_n dX0_settle_17 0 rfl ?_
    refine kR.getR (v := 8) dX0_settle_18 flX0_51 zcf0 zp27 (Or.inl ⟨_, rfl⟩) rfl ?_
    refine kR.getR (v := (rp σ.2.2.2.1 + 0)) dX0_settle_21 flX0_63 zcf4 zp8 (Or.inl ⟨_, rfl⟩) rfl ?_
    refine kR.getI dX0_settle_24 flX0_130 zcf6 (zq0 σ.2.2.2.1) (Or.inl rfl) ?_
    refine kR.icmp_ge (tgt := 55) dX0_settle_27 (by decide) h (fun h => ?_) (fun h => ?_)
    · refine kR.aload_n dX0_settle_55 0 rfl ?_
      refine zR.bipush (v := 13) dX0_settle_56 (by decide) ?_
      refine kR.putI dX0_settle_58 fpX0_48 zcf0 zp27 rfl h (fun σ2 h => ?_)
      refine zR.iconst (v := 1) dX0_settle_61 (by decide) ?_
      refine zR.istore_n (i := 2) (ls' := [(2, .int 1), (0, .ref 27), (1, .int x1)]) dX0_settle_62 rfl (by decide) rfl ?_
      refine zR.sub [1, 2, 0] rfl ?_
      exact kX0_settle_63 zF _ _ _ _ h
    · refine kR.aload_n dX0_settle_30 0 rfl ?_
      refine kR.getR (v := 31) dX0_settle_31 flX0_44 zcf0 zp27 (Or.inr ⟨_, rfl⟩) rfl ?_
      refine kR.iload_n dX0_settle_34 2 rfl ?_
      refine kR.aload_n dX0_settle_35 0 rfl ?_
      refine kR.getR (v := 8) dX0_settle_36 flX0_51 zcf0 zp27 (Or.inl ⟨_, rfl⟩) rfl ?_
      refine kR.getR (v := 4) dX0_settle_39 flX0_133 zcf4 zp8 (Or.inl ⟨_, rfl⟩) rfl ?_
      refine kR.iload_n dX0_settle_42 2 rfl ?_
      obtain ⟨v7, e8, h⟩ := bnr_some h
      refine kR.cVi [.int x2] dX0_settle_43 rfl (by decide) mwX0_137 zp4 (by decide) rfl rfl (Nat.le_of_ble_eq_true rfl) (lX7_breathOf σ x2 _ e8) ?_
      obtain ⟨σ9, e0, h⟩ := wIv (Nat.le_of_ble_eq_true rfl) h
      refine kR.cSv [.ref 31, .int x2, .int v7] dX0_settle_46 rfl (by decide) (Or.inr mwX0_142) rfl (Nat.le_of_ble_eq_true rfl) (lX10_setAt 31 6 (fun _ => zp31) rfl (Nat.le_of_ble_eq_true rfl) x2 v7 σ _ e0) ?_
      refine zR.iinc 2 (v := x2 + 1) (ls' := [(2, .int (x2 + 1)), (0, .ref 27), (1, .int x1)]) dX0_settle_49 rfl rfl (by decide) rfl ?_
      refine zR.goto (tgt := 16) dX0_settle_52 (by decide) ?_
      refine zR.sub [1, 2, 0] rfl ?_
      exact ih _ _ _ _ h
def fX0_settle (p1 : Int32) (σ : zS) : Option zS := if (iG σ 27 10) = p1 then some σ else bnd (iS σ 27 10 p1) fun σ1 => fX0_settle_16 zF p1 0 σ1
theorem eX0_settle {sc : Nat × (Nat → Int32)} (p1 : Int32) (σ : zS) (w : zS) (h : fX0_settle p1 σ = some w) : zR (zY0 sc) 7 0 0 mX0_settle 0 [(0, .ref 27), (1, .int p1)] [] (zE σ) (none, zE w) := by
  unfold fX0_settle at h
  refine kR.aload_n dX0_settle_0 0 rfl ?_
  refine kR.getI dX0_settle_1 flX0_41 zcf0 zp27 (Or.inl rfl) ?_
  refine kR.iload_n dX0_settle_4 1 rfl ?_
  refine kR.icmp_ne (tgt := 9) dX0_settle_5 (by decide) h (fun h => ?_) (fun h => ?_)
  · refine kR.aload_n dX0_settle_9 0 rfl ?_
    refine kR.iload_n dX0_settle_10 1 rfl ?_
    refine kR.putI dX0_settle_11 fpX0_41 zcf0 zp27 rfl h (fun σ1 h => ?_)
    refine zR.iconst (v := 0) dX0_settle_14 (by decide) ?_
    refine zR.istore_n (i := 2) (ls' := [(2, .int 0), (0, .ref 27), (1, .int p1)]) dX0_settle_15 rfl (by decide) rfl ?_
    refine zR.sub [1, 2, 0] rfl ?_
    exact kX0_settle_16 zF _ _ _ _ h
  · exact kR.vret dX0_settle_8 h
theorem lX0_settle {sc : Nat × (Nat → Int32)} (p1 : Int32) (σ : zS) (w : zS) (h : fX0_settle p1 σ = some w) : zC (zY0 sc) 7 0 0 mX0_settle [.ref 27, .int p1] (zE σ) (none, zE w) := zC.of (by decide +kernel) (Nat.le_of_ble_eq_true rfl) rfl (eX0_settle p1 σ w h)

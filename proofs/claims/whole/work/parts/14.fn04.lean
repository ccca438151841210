/-! MY OWN (by program): X4_tellAmong, X8_pop, J9_floorMod_7cf53, J9_floorDiv_7cf53, X8_joined, X8_bounded, X8_push, X8_valueOf, X10_within, X4_worthAmong, X10_worth, X4_tiredAlone, X10_tired, X10_setAt_, J7_fill_d0a16, X0_tunnelAt, X4_worthAlone, X10_valueAt_, X0_addToSeconds, X0_clearTotals -/
theorem dX4_tellAmong_0 : decode cX4_tellAmong 0 = .ok (.aload_n 0, 1) := by decide +kernel
theorem dX4_tellAmong_1 : decode cX4_tellAmong 1 = .ok (.getfield 9, 3) := by decide +kernel
theorem dX4_tellAmong_4 : decode cX4_tellAmong 4 = .ok (.iload_n 1, 1) := by decide +kernel
theorem dX4_tellAmong_5 : decode cX4_tellAmong 5 = .ok (.invokestatic 86, 3) := by decide +kernel
theorem dX4_tellAmong_8 : decode cX4_tellAmong 8 = .ok (.istore 4, 2) := by decide +kernel
theorem dX4_tellAmong_10 : decode cX4_tellAmong 10 = .ok (.aload_n 0, 1) := by decide +kernel
theorem dX4_tellAmong_11 : decode cX4_tellAmong 11 = .ok (.iload_n 2, 1) := by decide +kernel
theorem dX4_tellAmong_12 : decode cX4_tellAmong 12 = .ok (.iload_n 3, 1) := by decide +kernel
theorem dX4_tellAmong_13 : decode cX4_tellAmong 13 = .ok (.iload 4, 2) := by decide +kernel
theorem dX4_tellAmong_15 : decode cX4_tellAmong 15 = .ok (.aload_n 0, 1) := by decide +kernel
theorem dX4_tellAmong_16 : decode cX4_tellAmong 16 = .ok (.getfield 18, 3) := by decide +kernel
theorem dX4_tellAmong_19 : decode cX4_tellAmong 19 = .ok (.iload_n 1, 1) := by decide +kernel
theorem dX4_tellAmong_20 : decode cX4_tellAmong 20 = .ok (.invokevirtual 26, 3) := by decide +kernel
theorem dX4_tellAmong_23 : decode cX4_tellAmong 23 = .ok (.invokevirtual 58, 3) := by decide +kernel
theorem dX4_tellAmong_26 : decode cX4_tellAmong 26 = .ok (.iconst 0, 1) := by decide +kernel
theorem dX4_tellAmong_27 : decode cX4_tellAmong 27 = .ok (.istore 5, 2) := by decide +kernel
theorem dX4_tellAmong_29 : decode cX4_tellAmong 29 = .ok (.iload 5, 2) := by decide +kernel
theorem dX4_tellAmong_31 : decode cX4_tellAmong 31 = .ok (.aload_n 0, 1) := by decide +kernel
theorem dX4_tellAmong_32 : decode cX4_tellAmong 32 = .ok (.getfield 22, 3) := by decide +kernel
theorem dX4_tellAmong_35 : decode cX4_tellAmong 35 = .ok (.getfield 44, 3) := by decide +kernel
theorem dX4_tellAmong_38 : decode cX4_tellAmong 38 = .ok (.if_icmp .ge 51, 3) := by decide +kernel
theorem dX4_tellAmong_41 : decode cX4_tellAmong 41 = .ok (.aload_n 0, 1) := by decide +kernel
theorem dX4_tellAmong_42 : decode cX4_tellAmong 42 = .ok (.getfield 9, 3) := by decide +kernel
theorem dX4_tellAmong_45 : decode cX4_tellAmong 45 = .ok (.iload 5, 2) := by decide +kernel
theorem dX4_tellAmong_47 : decode cX4_tellAmong 47 = .ok (.invokestatic 86, 3) := by decide +kernel
theorem dX4_tellAmong_50 : decode cX4_tellAmong 50 = .ok (.istore 6, 2) := by decide +kernel
theorem dX4_tellAmong_52 : decode cX4_tellAmong 52 = .ok (.iload 6, 2) := by decide +kernel
theorem dX4_tellAmong_54 : decode cX4_tellAmong 54 = .ok (.iload 4, 2) := by decide +kernel
theorem dX4_tellAmong_56 : decode cX4_tellAmong 56 = .ok (.if_icmp .le 10, 3) := by decide +kernel
theorem dX4_tellAmong_59 : decode cX4_tellAmong 59 = .ok (.aload_n 0, 1) := by decide +kernel
theorem dX4_tellAmong_60 : decode cX4_tellAmong 60 = .ok (.getfield 15, 3) := by decide +kernel
theorem dX4_tellAmong_63 : decode cX4_tellAmong 63 = .ok (.iconst 3, 1) := by decide +kernel
theorem dX4_tellAmong_64 : decode cX4_tellAmong 64 = .ok (.iconst 0, 1) := by decide +kernel
theorem dX4_tellAmong_65 : decode cX4_tellAmong 65 = .ok (.iastore, 1) := by decide +kernel
theorem dX4_tellAmong_66 : decode cX4_tellAmong 66 = .ok (.iload 6, 2) := by decide +kernel
theorem dX4_tellAmong_68 : decode cX4_tellAmong 68 = .ok (.iload 4, 2) := by decide +kernel
theorem dX4_tellAmong_70 : decode cX4_tellAmong 70 = .ok (.if_icmp .ge 13, 3) := by decide +kernel
theorem dX4_tellAmong_73 : decode cX4_tellAmong 73 = .ok (.aload_n 0, 1) := by decide +kernel
theorem dX4_tellAmong_74 : decode cX4_tellAmong 74 = .ok (.getfield 15, 3) := by decide +kernel
theorem dX4_tellAmong_77 : decode cX4_tellAmong 77 = .ok (.iconst 4, 1) := by decide +kernel
theorem dX4_tellAmong_78 : decode cX4_tellAmong 78 = .ok (.dup2, 1) := by decide +kernel
theorem dX4_tellAmong_79 : decode cX4_tellAmong 79 = .ok (.iaload, 1) := by decide +kernel
theorem dX4_tellAmong_80 : decode cX4_tellAmong 80 = .ok (.iconst 1, 1) := by decide +kernel
theorem dX4_tellAmong_81 : decode cX4_tellAmong 81 = .ok (.iadd, 1) := by decide +kernel
theorem dX4_tellAmong_82 : decode cX4_tellAmong 82 = .ok (.iastore, 1) := by decide +kernel
theorem dX4_tellAmong_83 : decode cX4_tellAmong 83 = .ok (.iinc 5 1, 3) := by decide +kernel
theorem dX4_tellAmong_86 : decode cX4_tellAmong 86 = .ok (.goto (-57), 3) := by decide +kernel
theorem dX4_tellAmong_89 : decode cX4_tellAmong 89 = .ok (.return_, 1) := by decide +kernel
def fX4_tellAmong_84 (r29 : Int32 → Int32 → zS → Option zS) (x4 : Int32) (x5 : Int32) (σ : zS) : Option zS := r29 x4 (x5 + 1) σ
theorem kX4_tellAmong_83 {sc : Nat × (Nat → Int32)} (r29 : Int32 → Int32 → zS → Option zS) (hr29 : ∀ (x4 : Int32) (x5 : Int32) (σ : zS) (w : zS), r29 x4 x5 σ = some w → zR (zY0 sc) 3 0 0 mX4_tellAmong 29 [(0, .ref 8), (4, .int x4), (5, .int x5)] [] (zE σ) (none, zE w)) (x4 : Int32) (x5 : Int32) (σ : zS) (w : zS) (h : fX4_tellAmong_84 r29 x4 x5 σ = some w) : zR (zY0 sc) 3 0 0 mX4_tellAmong 83 [(0, .ref 8), (4, .int x4), (5, .int x5)] [] (zE σ) (none, zE w) := by
  unfold fX4_tellAmong_84 at h
  refine zR.iinc 2 (v := x5 + 1) (ls' := [(5, .int (x5 + 1)), (0, .ref 8), (4, .int x4)]) dX4_tellAmong_83 rfl rfl (by decide) rfl ?_
  refine zR.goto (tgt := 29) dX4_tellAmong_86 (by decide) ?_
  refine zR.sub [1, 2, 0] rfl ?_
  exact hr29 _ _ _ _ h
def nX4_tellAmong_58 (r29 : Int32 → Int32 → zS → Option zS) (x4 : Int32) (x5 : Int32) (x6 : Int32) (σ : zS) : Option zS := if x4 ≤ x6 then fX4_tellAmong_84 r29 x4 x5 σ else aI σ 26 7 4 fun v7 => wI σ 26 7 4 (v7 + 1) fun σ8 => fX4_tellAmong_84 r29 x4 x5 σ8
theorem kX4_tellAmong_66 {sc : Nat × (Nat → Int32)} (r29 : Int32 → Int32 → zS → Option zS) (hr29 : ∀ (x4 : Int32) (x5 : Int32) (σ : zS) (w : zS), r29 x4 x5 σ = some w → zR (zY0 sc) 3 0 0 mX4_tellAmong 29 [(0, .ref 8), (4, .int x4), (5, .int x5)] [] (zE σ) (none, zE w)) (x4 : Int32) (x5 : Int32) (x6 : Int32) (σ : zS) (w : zS) (h : nX4_tellAmong_58 r29 x4 x5 x6 σ = some w) : zR (zY0 sc) 3 0 0 mX4_tellAmong 66 [(0, .ref 8), (4, .int x4), (5, .int x5), (6, .int x6)] [] (zE σ) (none, zE w) := by
  unfold nX4_tellAmong_58 at h
  refine kR.iload dX4_tellAmong_66 3 rfl ?_
  refine kR.iload dX4_tellAmong_68 1 rfl ?_
  refine kR.icmp_ge (tgt := 83) dX4_tellAmong_70 (by decide) h (fun h => ?_) (fun h => ?_)
  · refine zR.sub [0, 1, 2] rfl ?_
    exact kX4_tellAmong_83 r29 hr29 _ _ _ _ h
  · refine kR.aload_n dX4_tellAmong_73 0 rfl ?_
    refine kR.getR (v := 26) dX4_tellAmong_74 flX4_15 zcf4 zp8 (Or.inr ⟨_, rfl⟩) rfl ?_
    refine zR.iconst (v := 4) dX4_tellAmong_77 (by decide) ?_
    refine zR.dup2 dX4_tellAmong_78 rfl rfl ?_
    refine kR.iald dX4_tellAmong_79 zp26 rfl h (fun v7 h => ?_)
    refine zR.iconst (v := 1) dX4_tellAmong_80 (by decide) ?_
    refine zR.iadd dX4_tellAmong_81 ?_
    refine kR.iast dX4_tellAmong_82 zp26 rfl h (fun σ8 h => ?_)
    refine zR.sub [0, 1, 2] rfl ?_
    exact kX4_tellAmong_83 r29 hr29 _ _ _ _ h
def nX4_tellAmong_23 : Nat → Int32 → Int32 → zS → Option zS
  | 0, _, _, _ => none
  | f + 1, x4, x5, σ => if (iG σ (rp σ.2.2.2.1 + 0) 2) ≤ x5 then some σ else aI σ 25 6 x5 fun v6 => if v6 ≤ x4 then nX4_tellAmong_58 (nX4_tellAmong_23 f) x4 x5 v6 σ else wI σ 26 7 3 0 fun σ9 => nX4_tellAmong_58 (nX4_tellAmong_23 f) x4 x5 v6 σ9
theorem kX4_tellAmong_29 {sc : Nat × (Nat → Int32)} : ∀ (fuel : Nat) (x4 : Int32) (x5 : Int32) (σ : zS) (w : zS) (h : nX4_tellAmong_23 fuel x4 x5 σ = some w), zR (zY0 sc) 3 0 0 mX4_tellAmong 29 [(0, .ref 8), (4, .int x4), (5, .int x5)] [] (zE σ) (none, zE w) := by
  intro fuel
  induction fuel with
  | zero => intro x4 x5 σ w h; exact nomatch h
  | succ f ih =>
    intro x4 x5 σ w h
    rw [nX4_tellAmong_23] at h
    refine kR.iload dX4_tellAmong_29 2 rfl ?_
    refine kR.aload_n dX4_tellAmong_31 0 rfl ?_
    refine kR.getR (v := (rp σ.2.2.2.1 + 0)) dX4_tellAmong_32 flX4_22 zcf4 zp8 (Or.inl ⟨_, rfl⟩) rfl ?_
    refine kR.getI dX4_tellAmong_35 flX4_44 zcf6 (zq0 σ.2.2.2.1) (Or.inl rfl) ?_
    refine kR.icmp_ge (tgt := 89) dX4_tellAmong_38 (by decide) h (fun h => ?_) (fun h => ?_)
    · exact kR.vret dX4_tellAmong_89 h
    · refine kR.aload_n dX4_tellAmong_41 0 rfl ?_
      refine kR.getR (v := 25) dX4_tellAmong_42 flX4_9 zcf4 zp8 (Or.inr ⟨_, rfl⟩) rfl ?_
      refine kR.iload dX4_tellAmong_45 2 rfl ?_
      obtain ⟨v6, e0, h⟩ := aIv (Nat.le_of_ble_eq_true rfl) h
      refine kR.cSi [.ref 25, .int x5] dX4_tellAmong_47 rfl (by decide) (Or.inr mwX4_86) rfl (Nat.le_of_ble_eq_true rfl) (lX10_valueAt 25 6 σ (fun _ => zp25) rfl (Nat.le_of_ble_eq_true rfl) x5 _ e0) ?_
      refine zR.istore (i := 6) (ls' := [(6, .int v6), (0, .ref 8), (4, .int x4), (5, .int x5)]) dX4_tellAmong_50 (by decide) rfl ?_
      refine kR.iload dX4_tellAmong_52 0 rfl ?_
      refine kR.iload dX4_tellAmong_54 2 rfl ?_
      refine kR.icmp_le (tgt := 66) dX4_tellAmong_56 (by decide) h (fun h => ?_) (fun h => ?_)
      · refine zR.sub [1, 2, 3, 0] rfl ?_
        exact kX4_tellAmong_66 (nX4_tellAmong_23 f) ih _ _ _ _ _ h
      · refine kR.aload_n dX4_tellAmong_59 1 rfl ?_
        refine kR.getR (v := 26) dX4_tellAmong_60 flX4_15 zcf4 zp8 (Or.inr ⟨_, rfl⟩) rfl ?_
        refine zR.iconst (v := 3) dX4_tellAmong_63 (by decide) ?_
        refine zR.iconst (v := 0) dX4_tellAmong_64 (by decide) ?_
        refine kR.iast dX4_tellAmong_65 zp26 rfl h (fun σ9 h => ?_)
        refine zR.sub [1, 2, 3, 0] rfl ?_
        exact kX4_tellAmong_66 (nX4_tellAmong_23 f) ih _ _ _ _ _ h
def nX4_tellAmong (p1 : Int32) (p2 : Int32) (p3 : Int32) (σ : zS) : Option zS := aI σ 25 6 p1 fun v1 => bnr (fX7_breathOf σ p1) fun v2 => bnr (fX4_tellAlone p2 p3 v1 v2 σ) fun σ4 => nX4_tellAmong_23 zF v1 0 σ4
theorem eX4_tellAmong {sc : Nat × (Nat → Int32)} (p1 : Int32) (p2 : Int32) (p3 : Int32) (σ : zS) (w : zS) (h : nX4_tellAmong p1 p2 p3 σ = some w) : zR (zY0 sc) 3 0 0 mX4_tellAmong 0 [(0, .ref 8), (1, .int p1), (2, .int p2), (3, .int p3)] [] (zE σ) (none, zE w) := by
  unfold nX4_tellAmong at h
  refine kR.aload_n dX4_tellAmong_0 0 rfl ?_
  refine kR.getR (v := 25) dX4_tellAmong_1 flX4_9 zcf4 zp8 (Or.inr ⟨_, rfl⟩) rfl ?_
  refine kR.iload_n dX4_tellAmong_4 1 rfl ?_
  obtain ⟨v1, e0, h⟩ := aIv (Nat.le_of_ble_eq_true rfl) h
  refine kR.cSi [.ref 25, .int p1] dX4_tellAmong_5 rfl (by decide) (Or.inr mwX4_86) rfl (Nat.le_of_ble_eq_true rfl) (lX10_valueAt 25 6 σ (fun _ => zp25) rfl (Nat.le_of_ble_eq_true rfl) p1 _ e0) ?_
  refine zR.istore (i := 4) (ls' := [(4, .int v1), (0, .ref 8), (1, .int p1), (2, .int p2), (3, .int p3)]) dX4_tellAmong_8 (by decide) rfl ?_
  refine kR.aload_n dX4_tellAmong_10 1 rfl ?_
  refine kR.iload_n dX4_tellAmong_11 3 rfl ?_
  refine kR.iload_n dX4_tellAmong_12 4 rfl ?_
  refine kR.iload dX4_tellAmong_13 0 rfl ?_
  refine kR.aload_n dX4_tellAmong_15 1 rfl ?_
  refine kR.getR (v := 4) dX4_tellAmong_16 flX4_18 zcf4 zp8 (Or.inl ⟨_, rfl⟩) rfl ?_
  refine kR.iload_n dX4_tellAmong_19 2 rfl ?_
  obtain ⟨v2, e3, h⟩ := bnr_some h
  refine kR.cVi [.int p1] dX4_tellAmong_20 rfl (by decide) mwX4_26 zp4 (by decide) rfl rfl (Nat.le_of_ble_eq_true rfl) (lX7_breathOf σ p1 _ e3) ?_
  obtain ⟨σ4, e5, h⟩ := bnr_some h
  refine kR.cVv [.int p2, .int p3, .int v1, .int v2] dX4_tellAmong_23 rfl (by decide) mwX4_58 zp8 (by decide) rfl rfl (Nat.le_of_ble_eq_true rfl) (lX4_tellAlone p2 p3 v1 v2 σ _ e5) ?_
  refine zR.iconst (v := 0) dX4_tellAmong_26 (by decide) ?_
  refine zR.istore (i := 5) (ls' := [(5, .int 0), (4, .int v1), (0, .ref 8), (1, .int p1), (2, .int p2), (3, .int p3)]) dX4_tellAmong_27 (by decide) rfl ?_
  refine zR.sub [2, 1, 0] rfl ?_
  exact kX4_tellAmong_29 zF _ _ _ _ h
theorem lnX4_tellAmong {sc : Nat × (Nat → Int32)} (p1 : Int32) (p2 : Int32) (p3 : Int32) (σ : zS) (w : zS) (h : nX4_tellAmong p1 p2 p3 σ = some w) : zC (zY0 sc) 3 0 0 mX4_tellAmong [.ref 8, .int p1, .int p2, .int p3] (zE σ) (none, zE w) := zC.of (by decide +kernel) (Nat.le_of_ble_eq_true rfl) rfl (eX4_tellAmong p1 p2 p3 σ w h)
def fX4_tellAmong_58 (r23 : Int32 → Int32 → zS → Option zS) (x1 : Int32) (x4 : Int32) (σ : zS) : Option zS := aI σ 25 6 x4 fun v8 => aI σ 25 6 x1 fun v9 => if v9 ≤ v8 then fX4_tellAmong_84 r23 x1 x4 σ else aI σ 26 7 4 fun v10 => wI σ 26 7 4 (v10 + 1) fun σ11 => fX4_tellAmong_84 r23 x1 x4 σ11
def fX4_tellAmong_23 : Nat → Int32 → Int32 → zS → Option zS
  | 0, _, _, _ => none
  | f + 1, x1, x4, σ => if (iG σ (rp σ.2.2.2.1 + 0) 2) ≤ x4 then some σ else aI σ 25 6 x4 fun v6 => aI σ 25 6 x1 fun v7 => if v6 ≤ v7 then fX4_tellAmong_58 (fX4_tellAmong_23 f) x1 x4 σ else wI σ 26 7 3 0 fun σ12 => fX4_tellAmong_58 (fX4_tellAmong_23 f) x1 x4 σ12
def fX4_tellAmong (p1 : Int32) (p2 : Int32) (p3 : Int32) (σ : zS) : Option zS := aI σ 25 6 p1 fun v1 => bnr (fX7_breathOf σ p1) fun v2 => bnr (fX4_tellAlone p2 p3 v1 v2 σ) fun σ4 => fX4_tellAmong_23 zF p1 0 σ4
theorem br_tA (own : Int32) (x1 : Int32) (A : Nat → Int32) (ho : A x1.toNatClampNeg = own) : ∀ (f : Nat) (i : Int32) (σ w : zS), σ.1 25 = A → fX4_tellAmong_23 f x1 i σ = some w → nX4_tellAmong_23 f own i σ = some w := by
  intro f
  induction f with
  | zero => intro i σ w _ h; exact nomatch h
  | succ f ih =>
    intro i σ w hA h
    rw [fX4_tellAmong_23] at h
    rw [nX4_tellAmong_23]
    have st : ∀ (σ w : zS), σ.1 25 = A → fX4_tellAmong_58 (fX4_tellAmong_23 f) x1 i σ = some w → nX4_tellAmong_58 (nX4_tellAmong_23 f) own i (A i.toNatClampNeg) σ = some w := by
      intro σ w hA h
      unfold fX4_tellAmong_58 at h
      unfold nX4_tellAmong_58
      obtain ⟨b1, h⟩ := bq_aI h
      obtain ⟨b2, h⟩ := bq_aI h
      have g1 : iG σ 25 i.toNatClampNeg = A i.toNatClampNeg := by rw [← hA]; rfl
      have g2 : iG σ 25 x1.toNatClampNeg = own := by rw [← ho, ← hA]; rfl
      rw [g1, g2] at h
      by_cases c : own ≤ A i.toNatClampNeg
      · rw [if_pos c] at h ⊢
        unfold fX4_tellAmong_84 at h ⊢
        exact ih _ _ _ hA h
      · rw [if_neg c] at h ⊢
        obtain ⟨b3, h⟩ := bq_aI h
        obtain ⟨b4, h⟩ := bq_wI h
        rw [bq_aIi b3, bq_wIi b4]
        unfold fX4_tellAmong_84 at h ⊢
        exact ih _ _ _ (by rw [← hA]; rfl) h
    by_cases c0 : (iG σ (rp σ.2.2.2.1 + 0) 2) ≤ i
    · rw [if_pos c0] at h ⊢
      exact h
    · rw [if_neg c0] at h ⊢
      obtain ⟨b1, h⟩ := bq_aI h
      obtain ⟨b2, h⟩ := bq_aI h
      have g1 : iG σ 25 i.toNatClampNeg = A i.toNatClampNeg := by rw [← hA]; rfl
      have g2 : iG σ 25 x1.toNatClampNeg = own := by rw [← ho, ← hA]; rfl
      rw [bq_aIi b1, g1]
      rw [g1, g2] at h
      by_cases c : A i.toNatClampNeg ≤ own
      · rw [if_pos c] at h ⊢
        exact st _ _ hA h
      · rw [if_neg c] at h ⊢
        obtain ⟨b4, h⟩ := bq_wI h
        rw [bq_wIi b4]
        exact st _ _ (by rw [← hA]; rfl) h
theorem bq_tl {x1 x4 s0 s1 : Int32} {σ w : zS} (h : fX4_tellAlone_29 x1 x4 s0 s1 σ = some w) : w.1 25 = σ.1 25 := by
  unfold fX4_tellAlone_29 at h
  obtain ⟨_, h⟩ := bq_wI h
  obtain ⟨_, h⟩ := bq_wI h
  obtain ⟨_, h⟩ := bq_wI h
  obtain ⟨_, h⟩ := bq_wI h
  obtain ⟨_, h⟩ := bq_aI h
  obtain ⟨_, h⟩ := bq_wI h
  rw [← Option.some.inj h]
  rfl
theorem bq_ta {p1 p2 p3 p4 : Int32} {σ w : zS} (h : fX4_tellAlone p1 p2 p3 p4 σ = some w) : w.1 25 = σ.1 25 := by
  unfold fX4_tellAlone at h
  obtain ⟨_, h⟩ := bq_wI h
  obtain ⟨_, h⟩ := bq_wI h
  by_cases c : p3 = p2
  · rw [if_pos c] at h
    rw [bq_tl h]
    rfl
  · rw [if_neg c] at h
    rw [bq_tl h]
    rfl
theorem br_X4_tellAmong {p1 p2 p3 : Int32} {σ w : zS} (h : fX4_tellAmong p1 p2 p3 σ = some w) : nX4_tellAmong p1 p2 p3 σ = some w := by
  unfold fX4_tellAmong at h
  unfold nX4_tellAmong
  obtain ⟨b1, h⟩ := bq_aI h
  obtain ⟨v2, e2, h⟩ := bnr_some h
  obtain ⟨τ, e3, h⟩ := bnr_some h
  rw [bq_aIi b1, bq_bnr e2, bq_bnr e3]
  exact br_tA _ p1 (σ.1 25) rfl zF 0 τ w (bq_ta e3) h
theorem lX4_tellAmong {sc : Nat × (Nat → Int32)} (p1 : Int32) (p2 : Int32) (p3 : Int32) (σ : zS) (w : zS) (h : fX4_tellAmong p1 p2 p3 σ = some w) : zC (zY0 sc) 3 0 0 mX4_tellAmong [.ref 8, .int p1, .int p2, .int p3] (zE σ) (none, zE w) := lnX4_tellAmong p1 p2 p3 σ w (br_X4_tellAmong h)
theorem dX8_pop_0 : decode cX8_pop 0 = .ok (.aload_n 0, 1) := by decide +kernel
theorem dX8_pop_1 : decode cX8_pop 1 = .ok (.getfield 18, 3) := by decide +kernel
theorem dX8_pop_4 : decode cX8_pop 4 = .ok (.ifCond .gt 5, 3) := by decide +kernel
theorem dX8_pop_7 : decode cX8_pop 7 = .ok (.iconst 0, 1) := by decide +kernel
theorem dX8_pop_8 : decode cX8_pop 8 = .ok (.ireturn, 1) := by decide +kernel
theorem dX8_pop_9 : decode cX8_pop 9 = .ok (.aload_n 0, 1) := by decide +kernel
theorem dX8_pop_10 : decode cX8_pop 10 = .ok (.dup, 1) := by decide +kernel
theorem dX8_pop_11 : decode cX8_pop 11 = .ok (.getfield 18, 3) := by decide +kernel
theorem dX8_pop_14 : decode cX8_pop 14 = .ok (.iconst 1, 1) := by decide +kernel
theorem dX8_pop_15 : decode cX8_pop 15 = .ok (.isub, 1) := by decide +kernel
theorem dX8_pop_16 : decode cX8_pop 16 = .ok (.putfield 18, 3) := by decide +kernel
theorem dX8_pop_19 : decode cX8_pop 19 = .ok (.aload_n 0, 1) := by decide +kernel
theorem dX8_pop_20 : decode cX8_pop 20 = .ok (.getfield 15, 3) := by decide +kernel
theorem dX8_pop_23 : decode cX8_pop 23 = .ok (.aload_n 0, 1) := by decide +kernel
theorem dX8_pop_24 : decode cX8_pop 24 = .ok (.getfield 18, 3) := by decide +kernel
theorem dX8_pop_27 : decode cX8_pop 27 = .ok (.iaload, 1) := by decide +kernel
theorem dX8_pop_28 : decode cX8_pop 28 = .ok (.ireturn, 1) := by decide +kernel
def fX8_pop (b0 : Bool) (σ : zS) : Option (Int32 × zS) := if 0 < (iG σ (rp b0 + 11) 2) then bnd (iS σ (rp b0 + 11) 2 ((iG σ (rp b0 + 11) 2) - 1)) fun σ1 => aI σ1 (rp b0 + 13) 64 (iG σ1 (rp b0 + 11) 2) fun v2 => some (v2, σ1) else some (0, σ)
theorem eX8_pop {sc : Nat × (Nat → Int32)} (b0 : Bool) (σ : zS) (w : Int32 × zS) (h : fX8_pop b0 σ = some w) : zR (zY0 sc) 1 0 0 mX8_pop 0 [(0, .ref (rp b0 + 11))] [] (zE σ) (some (.int w.1), zE w.2) := by
  unfold fX8_pop at h
  refine kR.aload_n dX8_pop_0 0 rfl ?_
  refine kR.getI dX8_pop_1 flX8_18 zcf8 (zq11 b0) (Or.inl rfl) ?_
  refine kR.if_gt (tgt := 9) dX8_pop_4 (by decide) h (fun h => ?_) (fun h => ?_)
  · refine kR.aload_n dX8_pop_9 0 rfl ?_
    refine zR.dup dX8_pop_10 rfl ?_
    refine kR.getI dX8_pop_11 flX8_18 zcf8 (zq11 b0) (Or.inl rfl) ?_
    refine zR.iconst (v := 1) dX8_pop_14 (by decide) ?_
    refine zR.isub dX8_pop_15 ?_
    refine kR.putI dX8_pop_16 fpX8_18 zcf8 (zq11 b0) rfl h (fun σ1 h => ?_)
    refine kR.aload_n dX8_pop_19 0 rfl ?_
    refine kR.getR (v := (rp b0 + 13)) dX8_pop_20 flX8_15 zcf8 (zq11 b0) (Or.inr ⟨_, rfl⟩) (zr11_1 _ b0) ?_
    refine kR.aload_n dX8_pop_23 0 rfl ?_
    refine kR.getI dX8_pop_24 flX8_18 zcf8 (zq11 b0) (Or.inl rfl) ?_
    refine kR.iald dX8_pop_27 (zq13 b0) (zl13 b0) h (fun v2 h => ?_)
    exact kR.iretW dX8_pop_28 (nzI rfl _) h
  · refine zR.iconst (v := 0) dX8_pop_7 (by decide) ?_
    exact kR.iretW dX8_pop_8 (nzI rfl _) h
theorem lX8_pop {sc : Nat × (Nat → Int32)} (b0 : Bool) (σ : zS) (w : Int32 × zS) (h : fX8_pop b0 σ = some w) : zC (zY0 sc) 1 0 0 mX8_pop [.ref (rp b0 + 11)] (zE σ) (some (.int w.1), zE w.2) := zC.of (by decide +kernel) (Nat.le_of_ble_eq_true rfl) ⟨_, rfl⟩ (eX8_pop b0 σ w h)
theorem dJ9_floorMod_7cf53_0 : decode cJ9_floorMod_7cf53 0 = .ok (.iload_n 0, 1) := by decide +kernel
theorem dJ9_floorMod_7cf53_1 : decode cJ9_floorMod_7cf53 1 = .ok (.iload_n 1, 1) := by decide +kernel
theorem dJ9_floorMod_7cf53_2 : decode cJ9_floorMod_7cf53 2 = .ok (.irem, 1) := by decide +kernel
theorem dJ9_floorMod_7cf53_3 : decode cJ9_floorMod_7cf53 3 = .ok (.istore_n 2, 1) := by decide +kernel
theorem dJ9_floorMod_7cf53_4 : decode cJ9_floorMod_7cf53 4 = .ok (.iload_n 0, 1) := by decide +kernel
theorem dJ9_floorMod_7cf53_5 : decode cJ9_floorMod_7cf53 5 = .ok (.iload_n 1, 1) := by decide +kernel
theorem dJ9_floorMod_7cf53_6 : decode cJ9_floorMod_7cf53 6 = .ok (.ixor, 1) := by decide +kernel
theorem dJ9_floorMod_7cf53_7 : decode cJ9_floorMod_7cf53 7 = .ok (.ifCond .ge 11, 3) := by decide +kernel
theorem dJ9_floorMod_7cf53_10 : decode cJ9_floorMod_7cf53 10 = .ok (.iload_n 2, 1) := by decide +kernel
theorem dJ9_floorMod_7cf53_11 : decode cJ9_floorMod_7cf53 11 = .ok (.ifCond .eq 7, 3) := by decide +kernel
theorem dJ9_floorMod_7cf53_14 : decode cJ9_floorMod_7cf53 14 = .ok (.iload_n 2, 1) := by decide +kernel
theorem dJ9_floorMod_7cf53_15 : decode cJ9_floorMod_7cf53 15 = .ok (.iload_n 1, 1) := by decide +kernel
theorem dJ9_floorMod_7cf53_16 : decode cJ9_floorMod_7cf53 16 = .ok (.iadd, 1) := by decide +kernel
theorem dJ9_floorMod_7cf53_17 : decode cJ9_floorMod_7cf53 17 = .ok (.ireturn, 1) := by decide +kernel
theorem dJ9_floorMod_7cf53_18 : decode cJ9_floorMod_7cf53 18 = .ok (.iload_n 2, 1) := by decide +kernel
theorem dJ9_floorMod_7cf53_19 : decode cJ9_floorMod_7cf53 19 = .ok (.ireturn, 1) := by decide +kernel
def fJ9_floorMod_7cf53 (p0 : Int32) (p1 : Int32) : Option Int32 := gd (¬ p1 = 0) (if 0 ≤ (p0 ^^^ p1) then some (p0 - p0 / p1 * p1) else if (p0 - p0 / p1 * p1) = 0 then some (p0 - p0 / p1 * p1) else some ((p0 - p0 / p1 * p1) + p1))
theorem eJ9_floorMod_7cf53 {sc : Nat × (Nat → Int32)} {μ : zM} (p0 : Int32) (p1 : Int32) (w : Int32) (h : fJ9_floorMod_7cf53 p0 p1 = some w) : zR (zY0 sc) 1 0 0 mJ9_floorMod_7cf53 0 [(0, .int p0), (1, .int p1)] [] μ (some (.int w), μ) := by
  unfold fJ9_floorMod_7cf53 at h
  refine kR.iload_n dJ9_floorMod_7cf53_0 0 rfl ?_
  refine kR.iload_n dJ9_floorMod_7cf53_1 1 rfl ?_
  refine kR.irem dJ9_floorMod_7cf53_2 h (fun h => ?_)
  refine zR.istore_n (i := 2) (ls' := [(2, .int (p0 - p0 / p1 * p1)), (0, .int p0), (1, .int p1)]) dJ9_floorMod_7cf53_3 rfl (by decide) rfl ?_
  refine kR.iload_n dJ9_floorMod_7cf53_4 1 rfl ?_
  refine kR.iload_n dJ9_floorMod_7cf53_5 2 rfl ?_
  refine zR.ixor dJ9_floorMod_7cf53_6 ?_
  refine kR.if_ge (tgt := 18) dJ9_floorMod_7cf53_7 (by decide) h (fun h => ?_) (fun h => ?_)
  · refine kR.iload_n dJ9_floorMod_7cf53_18 0 rfl ?_
    exact kR.iretO dJ9_floorMod_7cf53_19 (nzI rfl _) h
  · refine kR.iload_n dJ9_floorMod_7cf53_10 0 rfl ?_
    refine kR.if_eq (tgt := 18) dJ9_floorMod_7cf53_11 (by decide) h (fun h => ?_) (fun h => ?_)
    · refine kR.iload_n dJ9_floorMod_7cf53_18 0 rfl ?_
      exact kR.iretO dJ9_floorMod_7cf53_19 (nzI rfl _) h
    · refine kR.iload_n dJ9_floorMod_7cf53_14 0 rfl ?_
      refine kR.iload_n dJ9_floorMod_7cf53_15 2 rfl ?_
      refine zR.iadd dJ9_floorMod_7cf53_16 ?_
      exact kR.iretO dJ9_floorMod_7cf53_17 (nzI rfl _) h
theorem lJ9_floorMod_7cf53 {sc : Nat × (Nat → Int32)} {μ : zM} (p0 : Int32) (p1 : Int32) (w : Int32) (h : fJ9_floorMod_7cf53 p0 p1 = some w) : zC (zY0 sc) 1 0 0 mJ9_floorMod_7cf53 [.int p0, .int p1] μ (some (.int w), μ) := zC.of (by decide +kernel) (Nat.le_of_ble_eq_true rfl) ⟨_, rfl⟩ (eJ9_floorMod_7cf53 p0 p1 w h)
theorem dJ9_floorDiv_7cf53_0 : decode cJ9_floorDiv_7cf53 0 = .ok (.iload_n 0, 1) := by decide +kernel
theorem dJ9_floorDiv_7cf53_1 : decode cJ9_floorDiv_7cf53 1 = .ok (.iload_n 1, 1) := by decide +kernel
theorem dJ9_floorDiv_7cf53_2 : decode cJ9_floorDiv_7cf53 2 = .ok (.idiv, 1) := by decide +kernel
theorem dJ9_floorDiv_7cf53_3 : decode cJ9_floorDiv_7cf53 3 = .ok (.istore_n 2, 1) := by decide +kernel
theorem dJ9_floorDiv_7cf53_4 : decode cJ9_floorDiv_7cf53 4 = .ok (.iload_n 0, 1) := by decide +kernel
theorem dJ9_floorDiv_7cf53_5 : decode cJ9_floorDiv_7cf53 5 = .ok (.iload_n 1, 1) := by decide +kernel
theorem dJ9_floorDiv_7cf53_6 : decode cJ9_floorDiv_7cf53 6 = .ok (.ixor, 1) := by decide +kernel
theorem dJ9_floorDiv_7cf53_7 : decode cJ9_floorDiv_7cf53 7 = .ok (.ifCond .ge 14, 3) := by decide +kernel
theorem dJ9_floorDiv_7cf53_10 : decode cJ9_floorDiv_7cf53 10 = .ok (.iload_n 2, 1) := by decide +kernel
theorem dJ9_floorDiv_7cf53_11 : decode cJ9_floorDiv_7cf53 11 = .ok (.iload_n 1, 1) := by decide +kernel
theorem dJ9_floorDiv_7cf53_12 : decode cJ9_floorDiv_7cf53 12 = .ok (.imul, 1) := by decide +kernel
theorem dJ9_floorDiv_7cf53_13 : decode cJ9_floorDiv_7cf53 13 = .ok (.iload_n 0, 1) := by decide +kernel
theorem dJ9_floorDiv_7cf53_14 : decode cJ9_floorDiv_7cf53 14 = .ok (.if_icmp .eq 7, 3) := by decide +kernel
theorem dJ9_floorDiv_7cf53_17 : decode cJ9_floorDiv_7cf53 17 = .ok (.iload_n 2, 1) := by decide +kernel
theorem dJ9_floorDiv_7cf53_18 : decode cJ9_floorDiv_7cf53 18 = .ok (.iconst 1, 1) := by decide +kernel
theorem dJ9_floorDiv_7cf53_19 : decode cJ9_floorDiv_7cf53 19 = .ok (.isub, 1) := by decide +kernel
theorem dJ9_floorDiv_7cf53_20 : decode cJ9_floorDiv_7cf53 20 = .ok (.ireturn, 1) := by decide +kernel
theorem dJ9_floorDiv_7cf53_21 : decode cJ9_floorDiv_7cf53 21 = .ok (.iload_n 2, 1) := by decide +kernel
theorem dJ9_floorDiv_7cf53_22 : decode cJ9_floorDiv_7cf53 22 = .ok (.ireturn, 1) := by decide +kernel
def fJ9_floorDiv_7cf53 (p0 : Int32) (p1 : Int32) : Option Int32 := gd (¬ p1 = 0) (if 0 ≤ (p0 ^^^ p1) then some (p0 / p1) else if ((p0 / p1) * p1) = p0 then some (p0 / p1) else some ((p0 / p1) - 1))
theorem eJ9_floorDiv_7cf53 {sc : Nat × (Nat → Int32)} {μ : zM} (p0 : Int32) (p1 : Int32) (w : Int32) (h : fJ9_floorDiv_7cf53 p0 p1 = some w) : zR (zY0 sc) 1 0 0 mJ9_floorDiv_7cf53 0 [(0, .int p0), (1, .int p1)] [] μ (some (.int w), μ) := by
  unfold fJ9_floorDiv_7cf53 at h
  refine kR.iload_n dJ9_floorDiv_7cf53_0 0 rfl ?_
  refine kR.iload_n dJ9_floorDiv_7cf53_1 1 rfl ?_
  refine kR.idiv dJ9_floorDiv_7cf53_2 h (fun h => ?_)
  refine zR.istore_n (i := 2) (ls' := [(2, .int (p0 / p1)), (0, .int p0), (1, .int p1)]) dJ9_floorDiv_7cf53_3 rfl (by decide) rfl ?_
  refine kR.iload_n dJ9_floorDiv_7cf53_4 1 rfl ?_
  refine kR.iload_n dJ9_floorDiv_7cf53_5 2 rfl ?_
  refine zR.ixor dJ9_floorDiv_7cf53_6 ?_
  refine kR.if_ge (tgt := 21) dJ9_floorDiv_7cf53_7 (by decide) h (fun h => ?_) (fun h => ?_)
  · refine kR.iload_n dJ9_floorDiv_7cf53_21 0 rfl ?_
    exact kR.iretO dJ9_floorDiv_7cf53_22 (nzI rfl _) h
  · refine kR.iload_n dJ9_floorDiv_7cf53_10 0 rfl ?_
    refine kR.iload_n dJ9_floorDiv_7cf53_11 2 rfl ?_
    refine zR.imul dJ9_floorDiv_7cf53_12 ?_
    refine kR.iload_n dJ9_floorDiv_7cf53_13 1 rfl ?_
    refine kR.icmp_eq (tgt := 21) dJ9_floorDiv_7cf53_14 (by decide) h (fun h => ?_) (fun h => ?_)
    · refine kR.iload_n dJ9_floorDiv_7cf53_21 0 rfl ?_
      exact kR.iretO dJ9_floorDiv_7cf53_22 (nzI rfl _) h
    · refine kR.iload_n dJ9_floorDiv_7cf53_17 0 rfl ?_
      refine zR.iconst (v := 1) dJ9_floorDiv_7cf53_18 (by decide) ?_
      refine zR.isub dJ9_floorDiv_7cf53_19 ?_
      exact kR.iretO dJ9_floorDiv_7cf53_20 (nzI rfl _) h
theorem lJ9_floorDiv_7cf53 {sc : Nat × (Nat → Int32)} {μ : zM} (p0 : Int32) (p1 : Int32) (w : Int32) (h : fJ9_floorDiv_7cf53 p0 p1 = some w) : zC (zY0 sc) 1 0 0 mJ9_floorDiv_7cf53 [.int p0, .int p1] μ (some (.int w), μ) := zC.of (by decide +kernel) (Nat.le_of_ble_eq_true rfl) ⟨_, rfl⟩ (eJ9_floorDiv_7cf53 p0 p1 w h)
theorem dX8_joined_0 : decode cX8_joined 0 = .ok (.iload_n 0, 1) := by decide +kernel
theorem dX8_joined_1 : decode cX8_joined 1 = .ok (.lookupswitch 212 #[(6, 188), (7, 193), (8, 198), (9, 205), (37, 140), (42, 119), (43, 107), (45, 113), (47, 125), (60, 155), (61, 177), (62, 166)], 107) := by decide +kernel
theorem dX8_joined_108 : decode cX8_joined 108 = .ok (.iload_n 1, 1) := by decide +kernel
theorem dX8_joined_109 : decode cX8_joined 109 = .ok (.i2l, 1) := by decide +kernel
theorem dX8_joined_110 : decode cX8_joined 110 = .ok (.iload_n 2, 1) := by decide +kernel
theorem dX8_joined_111 : decode cX8_joined 111 = .ok (.i2l, 1) := by decide +kernel
theorem dX8_joined_112 : decode cX8_joined 112 = .ok (.ladd, 1) := by decide +kernel
theorem dX8_joined_113 : decode cX8_joined 113 = .ok (.lreturn, 1) := by decide +kernel
theorem dX8_joined_114 : decode cX8_joined 114 = .ok (.iload_n 1, 1) := by decide +kernel
theorem dX8_joined_115 : decode cX8_joined 115 = .ok (.i2l, 1) := by decide +kernel
theorem dX8_joined_116 : decode cX8_joined 116 = .ok (.iload_n 2, 1) := by decide +kernel
theorem dX8_joined_117 : decode cX8_joined 117 = .ok (.i2l, 1) := by decide +kernel
theorem dX8_joined_118 : decode cX8_joined 118 = .ok (.lsub, 1) := by decide +kernel
theorem dX8_joined_119 : decode cX8_joined 119 = .ok (.lreturn, 1) := by decide +kernel
theorem dX8_joined_120 : decode cX8_joined 120 = .ok (.iload_n 1, 1) := by decide +kernel
theorem dX8_joined_121 : decode cX8_joined 121 = .ok (.i2l, 1) := by decide +kernel
theorem dX8_joined_122 : decode cX8_joined 122 = .ok (.iload_n 2, 1) := by decide +kernel
theorem dX8_joined_123 : decode cX8_joined 123 = .ok (.i2l, 1) := by decide +kernel
theorem dX8_joined_124 : decode cX8_joined 124 = .ok (.lmul, 1) := by decide +kernel
theorem dX8_joined_125 : decode cX8_joined 125 = .ok (.lreturn, 1) := by decide +kernel
theorem dX8_joined_126 : decode cX8_joined 126 = .ok (.iload_n 2, 1) := by decide +kernel
theorem dX8_joined_127 : decode cX8_joined 127 = .ok (.ifCond .ne 7, 3) := by decide +kernel
theorem dX8_joined_130 : decode cX8_joined 130 = .ok (.lconst 0, 1) := by decide +kernel
theorem dX8_joined_131 : decode cX8_joined 131 = .ok (.goto 9, 3) := by decide +kernel
theorem dX8_joined_134 : decode cX8_joined 134 = .ok (.iload_n 1, 1) := by decide +kernel
theorem dX8_joined_135 : decode cX8_joined 135 = .ok (.iload_n 2, 1) := by decide +kernel
theorem dX8_joined_136 : decode cX8_joined 136 = .ok (.invokestatic 66, 3) := by decide +kernel
theorem dX8_joined_139 : decode cX8_joined 139 = .ok (.i2l, 1) := by decide +kernel
theorem dX8_joined_140 : decode cX8_joined 140 = .ok (.lreturn, 1) := by decide +kernel
theorem dX8_joined_141 : decode cX8_joined 141 = .ok (.iload_n 2, 1) := by decide +kernel
theorem dX8_joined_142 : decode cX8_joined 142 = .ok (.ifCond .ne 7, 3) := by decide +kernel
theorem dX8_joined_145 : decode cX8_joined 145 = .ok (.lconst 0, 1) := by decide +kernel
theorem dX8_joined_146 : decode cX8_joined 146 = .ok (.goto 9, 3) := by decide +kernel
theorem dX8_joined_149 : decode cX8_joined 149 = .ok (.iload_n 1, 1) := by decide +kernel
theorem dX8_joined_150 : decode cX8_joined 150 = .ok (.iload_n 2, 1) := by decide +kernel
theorem dX8_joined_151 : decode cX8_joined 151 = .ok (.invokestatic 69, 3) := by decide +kernel
theorem dX8_joined_154 : decode cX8_joined 154 = .ok (.i2l, 1) := by decide +kernel
theorem dX8_joined_155 : decode cX8_joined 155 = .ok (.lreturn, 1) := by decide +kernel
theorem dX8_joined_156 : decode cX8_joined 156 = .ok (.iload_n 1, 1) := by decide +kernel
theorem dX8_joined_157 : decode cX8_joined 157 = .ok (.iload_n 2, 1) := by decide +kernel
theorem dX8_joined_158 : decode cX8_joined 158 = .ok (.if_icmp .ge 7, 3) := by decide +kernel
theorem dX8_joined_161 : decode cX8_joined 161 = .ok (.lconst 1, 1) := by decide +kernel
theorem dX8_joined_162 : decode cX8_joined 162 = .ok (.goto 4, 3) := by decide +kernel
theorem dX8_joined_165 : decode cX8_joined 165 = .ok (.lconst 0, 1) := by decide +kernel
theorem dX8_joined_166 : decode cX8_joined 166 = .ok (.lreturn, 1) := by decide +kernel
theorem dX8_joined_167 : decode cX8_joined 167 = .ok (.iload_n 1, 1) := by decide +kernel
theorem dX8_joined_168 : decode cX8_joined 168 = .ok (.iload_n 2, 1) := by decide +kernel
theorem dX8_joined_169 : decode cX8_joined 169 = .ok (.if_icmp .le 7, 3) := by decide +kernel
theorem dX8_joined_172 : decode cX8_joined 172 = .ok (.lconst 1, 1) := by decide +kernel
theorem dX8_joined_173 : decode cX8_joined 173 = .ok (.goto 4, 3) := by decide +kernel
theorem dX8_joined_176 : decode cX8_joined 176 = .ok (.lconst 0, 1) := by decide +kernel
theorem dX8_joined_177 : decode cX8_joined 177 = .ok (.lreturn, 1) := by decide +kernel
theorem dX8_joined_178 : decode cX8_joined 178 = .ok (.iload_n 1, 1) := by decide +kernel
theorem dX8_joined_179 : decode cX8_joined 179 = .ok (.iload_n 2, 1) := by decide +kernel
theorem dX8_joined_180 : decode cX8_joined 180 = .ok (.if_icmp .ne 7, 3) := by decide +kernel
theorem dX8_joined_183 : decode cX8_joined 183 = .ok (.lconst 1, 1) := by decide +kernel
theorem dX8_joined_184 : decode cX8_joined 184 = .ok (.goto 4, 3) := by decide +kernel
theorem dX8_joined_187 : decode cX8_joined 187 = .ok (.lconst 0, 1) := by decide +kernel
theorem dX8_joined_188 : decode cX8_joined 188 = .ok (.lreturn, 1) := by decide +kernel
theorem dX8_joined_189 : decode cX8_joined 189 = .ok (.iload_n 1, 1) := by decide +kernel
theorem dX8_joined_190 : decode cX8_joined 190 = .ok (.iload_n 2, 1) := by decide +kernel
theorem dX8_joined_191 : decode cX8_joined 191 = .ok (.iand, 1) := by decide +kernel
theorem dX8_joined_192 : decode cX8_joined 192 = .ok (.i2l, 1) := by decide +kernel
theorem dX8_joined_193 : decode cX8_joined 193 = .ok (.lreturn, 1) := by decide +kernel
theorem dX8_joined_194 : decode cX8_joined 194 = .ok (.iload_n 1, 1) := by decide +kernel
theorem dX8_joined_195 : decode cX8_joined 195 = .ok (.iload_n 2, 1) := by decide +kernel
theorem dX8_joined_196 : decode cX8_joined 196 = .ok (.ior, 1) := by decide +kernel
theorem dX8_joined_197 : decode cX8_joined 197 = .ok (.i2l, 1) := by decide +kernel
theorem dX8_joined_198 : decode cX8_joined 198 = .ok (.lreturn, 1) := by decide +kernel
theorem dX8_joined_199 : decode cX8_joined 199 = .ok (.iload_n 1, 1) := by decide +kernel
theorem dX8_joined_200 : decode cX8_joined 200 = .ok (.iload_n 2, 1) := by decide +kernel
theorem dX8_joined_201 : decode cX8_joined 201 = .ok (.invokestatic 41, 3) := by decide +kernel
theorem dX8_joined_204 : decode cX8_joined 204 = .ok (.i2l, 1) := by decide +kernel
theorem dX8_joined_205 : decode cX8_joined 205 = .ok (.lreturn, 1) := by decide +kernel
theorem dX8_joined_206 : decode cX8_joined 206 = .ok (.iload_n 1, 1) := by decide +kernel
theorem dX8_joined_207 : decode cX8_joined 207 = .ok (.iload_n 2, 1) := by decide +kernel
theorem dX8_joined_208 : decode cX8_joined 208 = .ok (.invokestatic 47, 3) := by decide +kernel
theorem dX8_joined_211 : decode cX8_joined 211 = .ok (.i2l, 1) := by decide +kernel
theorem dX8_joined_212 : decode cX8_joined 212 = .ok (.lreturn, 1) := by decide +kernel
theorem dX8_joined_213 : decode cX8_joined 213 = .ok (.lconst 0, 1) := by decide +kernel
theorem dX8_joined_214 : decode cX8_joined 214 = .ok (.lreturn, 1) := by decide +kernel
def fX8_joined (p0 : Int32) (p1 : Int32) (p2 : Int32) : Option Int64 := if p0 = 6 then some (((p1 &&& p2) : Int32).toInt64) else if p0 = 7 then some (((p1 ||| p2) : Int32).toInt64) else if p0 = 8 then some (((fJ9_min_7cf53 p1 p2) : Int32).toInt64) else if p0 = 9 then some (((fJ9_max_7cf53 p1 p2) : Int32).toInt64) else if p0 = 37 then if p2 = 0 then some 0 else bnr (fJ9_floorMod_7cf53 p1 p2) fun v1 => some v1.toInt64 else if p0 = 42 then some (p1.toInt64 * p2.toInt64) else if p0 = 43 then some (p1.toInt64 + p2.toInt64) else if p0 = 45 then some (p1.toInt64 - p2.toInt64) else if p0 = 47 then if p2 = 0 then some 0 else bnr (fJ9_floorDiv_7cf53 p1 p2) fun v3 => some v3.toInt64 else if p0 = 60 then if p2 ≤ p1 then some 0 else some 1 else if p0 = 61 then if p1 = p2 then some 1 else some 0 else if p0 = 62 then if p1 ≤ p2 then some 0 else some 1 else some 0
theorem eX8_joined {sc : Nat × (Nat → Int32)} {μ : zM} (p0 : Int32) (p1 : Int32) (p2 : Int32) (w : Int64) (h : fX8_joined p0 p1 p2 = some w) : zR (zY0 sc) 2 0 0 mX8_joined 0 [(0, .int p0), (1, .int p1), (2, .int p2)] [] μ (some (.long w), μ) := by
  unfold fX8_joined at h
  refine kR.iload_n dX8_joined_0 0 rfl ?_
  by_cases e6 : p0 = 6
  · rw [if_pos e6] at h
    refine zR.lookup (off := 188) (tgt := 189) dX8_joined_1 (by decide) (by rw [e6]; decide) (by decide) ?_
    refine kR.iload_n dX8_joined_189 1 rfl ?_
    refine kR.iload_n dX8_joined_190 2 rfl ?_
    refine zR.iand dX8_joined_191 ?_
    refine zR.i2l dX8_joined_192 ?_
    exact kR.lretO dX8_joined_193 h
  rw [if_neg e6] at h
  by_cases e7 : p0 = 7
  · rw [if_pos e7] at h
    refine zR.lookup (off := 193) (tgt := 194) dX8_joined_1 (by decide) (by rw [e7]; decide) (by decide) ?_
    refine kR.iload_n dX8_joined_194 1 rfl ?_
    refine kR.iload_n dX8_joined_195 2 rfl ?_
    refine zR.ior dX8_joined_196 ?_
    refine zR.i2l dX8_joined_197 ?_
    exact kR.lretO dX8_joined_198 h
  rw [if_neg e7] at h
  by_cases e8 : p0 = 8
  · rw [if_pos e8] at h
    refine zR.lookup (off := 198) (tgt := 199) dX8_joined_1 (by decide) (by rw [e8]; decide) (by decide) ?_
    refine kR.iload_n dX8_joined_199 1 rfl ?_
    refine kR.iload_n dX8_joined_200 2 rfl ?_
    refine kR.cSi [.int p1, .int p2] dX8_joined_201 rfl (by decide) (Or.inl mwX8_41) rfl (Nat.le_of_ble_eq_true rfl) (lJ9_min_7cf53 p1 p2) ?_
    refine zR.i2l dX8_joined_204 ?_
    exact kR.lretO dX8_joined_205 h
  rw [if_neg e8] at h
  by_cases e9 : p0 = 9
  · rw [if_pos e9] at h
    refine zR.lookup (off := 205) (tgt := 206) dX8_joined_1 (by decide) (by rw [e9]; decide) (by decide) ?_
    refine kR.iload_n dX8_joined_206 1 rfl ?_
    refine kR.iload_n dX8_joined_207 2 rfl ?_
    refine kR.cSi [.int p1, .int p2] dX8_joined_208 rfl (by decide) (Or.inl mwX8_47) rfl (Nat.le_of_ble_eq_true rfl) (lJ9_max_7cf53 p1 p2) ?_
    refine zR.i2l dX8_joined_211 ?_
    exact kR.lretO dX8_joined_212 h
  rw [if_neg e9] at h
  by_cases e37 : p0 = 37
  · rw [if_pos e37] at h
    refine zR.lookup (off := 140) (tgt := 141) dX8_joined_1 (by decide) (by rw [e37]; decide) (by decide) ?_
    refine kR.iload_n dX8_joined_141 2 rfl ?_
    refine kR.if_ne (tgt := 149) dX8_joined_142 (by decide) h (fun h => ?_) (fun h => ?_)
    · refine kR.iload_n dX8_joined_149 1 rfl ?_
      refine kR.iload_n dX8_joined_150 2 rfl ?_
      obtain ⟨v1, e2, h⟩ := bnr_some h
      refine kR.cSi [.int p1, .int p2] dX8_joined_151 rfl (by decide) (Or.inl mwX8_69) rfl (Nat.le_of_ble_eq_true rfl) (lJ9_floorMod_7cf53 p1 p2 _ e2) ?_
      refine zR.i2l dX8_joined_154 ?_
      exact kR.lretO dX8_joined_155 h
    · refine zR.lconst (v := 0) dX8_joined_145 (by decide) ?_
      refine zR.goto (tgt := 155) dX8_joined_146 (by decide) ?_
      exact kR.lretO dX8_joined_155 h
  rw [if_neg e37] at h
  by_cases e42 : p0 = 42
  · rw [if_pos e42] at h
    refine zR.lookup (off := 119) (tgt := 120) dX8_joined_1 (by decide) (by rw [e42]; decide) (by decide) ?_
    refine kR.iload_n dX8_joined_120 1 rfl ?_
    refine zR.i2l dX8_joined_121 ?_
    refine kR.iload_n dX8_joined_122 2 rfl ?_
    refine zR.i2l dX8_joined_123 ?_
    refine zR.lmul dX8_joined_124 ?_
    exact kR.lretO dX8_joined_125 h
  rw [if_neg e42] at h
  by_cases e43 : p0 = 43
  · rw [if_pos e43] at h
    refine zR.lookup (off := 107) (tgt := 108) dX8_joined_1 (by decide) (by rw [e43]; decide) (by decide) ?_
    refine kR.iload_n dX8_joined_108 1 rfl ?_
    refine zR.i2l dX8_joined_109 ?_
    refine kR.iload_n dX8_joined_110 2 rfl ?_
    refine zR.i2l dX8_joined_111 ?_
    refine zR.ladd dX8_joined_112 ?_
    exact kR.lretO dX8_joined_113 h
  rw [if_neg e43] at h
  by_cases e45 : p0 = 45
  · rw [if_pos e45] at h
    refine zR.lookup (off := 113) (tgt := 114) dX8_joined_1 (by decide) (by rw [e45]; decide) (by decide) ?_
    refine kR.iload_n dX8_joined_114 1 rfl ?_
    refine zR.i2l dX8_joined_115 ?_
    refine kR.iload_n dX8_joined_116 2 rfl ?_
    refine zR.i2l dX8_joined_117 ?_
    refine zR.lsub dX8_joined_118 ?_
    exact kR.lretO dX8_joined_119 h
  rw [if_neg e45] at h
  by_cases e47 : p0 = 47
  · rw [if_pos e47] at h
    refine zR.lookup (off := 125) (tgt := 126) dX8_joined_1 (by decide) (by rw [e47]; decide) (by decide) ?_
    refine kR.iload_n dX8_joined_126 2 rfl ?_
    refine kR.if_ne (tgt := 134) dX8_joined_127 (by decide) h (fun h => ?_) (fun h => ?_)
    · refine kR.iload_n dX8_joined_134 1 rfl ?_
      refine kR.iload_n dX8_joined_135 2 rfl ?_
      obtain ⟨v3, e4, h⟩ := bnr_some h
      refine kR.cSi [.int p1, .int p2] dX8_joined_136 rfl (by decide) (Or.inl mwX8_66) rfl (Nat.le_of_ble_eq_true rfl) (lJ9_floorDiv_7cf53 p1 p2 _ e4) ?_
      refine zR.i2l dX8_joined_139 ?_
      exact kR.lretO dX8_joined_140 h
    · refine zR.lconst (v := 0) dX8_joined_130 (by decide) ?_
      refine zR.goto (tgt := 140) dX8_joined_131 (by decide) ?_
      exact kR.lretO dX8_joined_140 h
  rw [if_neg e47] at h
  by_cases e60 : p0 = 60
  · rw [if_pos e60] at h
    refine zR.lookup (off := 155) (tgt := 156) dX8_joined_1 (by decide) (by rw [e60]; decide) (by decide) ?_
    refine kR.iload_n dX8_joined_156 1 rfl ?_
    refine kR.iload_n dX8_joined_157 2 rfl ?_
    refine kR.icmp_ge (tgt := 165) dX8_joined_158 (by decide) h (fun h => ?_) (fun h => ?_)
    · refine zR.lconst (v := 0) dX8_joined_165 (by decide) ?_
      exact kR.lretO dX8_joined_166 h
    · refine zR.lconst (v := 1) dX8_joined_161 (by decide) ?_
      refine zR.goto (tgt := 166) dX8_joined_162 (by decide) ?_
      exact kR.lretO dX8_joined_166 h
  rw [if_neg e60] at h
  by_cases e61 : p0 = 61
  · rw [if_pos e61] at h
    refine zR.lookup (off := 177) (tgt := 178) dX8_joined_1 (by decide) (by rw [e61]; decide) (by decide) ?_
    refine kR.iload_n dX8_joined_178 1 rfl ?_
    refine kR.iload_n dX8_joined_179 2 rfl ?_
    refine kR.icmp_ne (tgt := 187) dX8_joined_180 (by decide) h (fun h => ?_) (fun h => ?_)
    · refine zR.lconst (v := 0) dX8_joined_187 (by decide) ?_
      exact kR.lretO dX8_joined_188 h
    · refine zR.lconst (v := 1) dX8_joined_183 (by decide) ?_
      refine zR.goto (tgt := 188) dX8_joined_184 (by decide) ?_
      exact kR.lretO dX8_joined_188 h
  rw [if_neg e61] at h
  by_cases e62 : p0 = 62
  · rw [if_pos e62] at h
    refine zR.lookup (off := 166) (tgt := 167) dX8_joined_1 (by decide) (by rw [e62]; decide) (by decide) ?_
    refine kR.iload_n dX8_joined_167 1 rfl ?_
    refine kR.iload_n dX8_joined_168 2 rfl ?_
    refine kR.icmp_le (tgt := 176) dX8_joined_169 (by decide) h (fun h => ?_) (fun h => ?_)
    · refine zR.lconst (v := 0) dX8_joined_176 (by decide) ?_
      exact kR.lretO dX8_joined_177 h
    · refine zR.lconst (v := 1) dX8_joined_172 (by decide) ?_
      refine zR.goto (tgt := 177) dX8_joined_173 (by decide) ?_
      exact kR.lretO dX8_joined_177 h
  rw [if_neg e62] at h
  refine zR.lookup (off := 212) (tgt := 213) dX8_joined_1 (by decide) (by show Op.lookupswitch.offset [(6, 188), (7, 193), (8, 198), (9, 205), (37, 140), (42, 119), (43, 107), (45, 113), (47, 125), (60, 155), (61, 177), (62, 166)] _ _ = _; rw [Op.lookupswitch.offset_cons, if_neg (tne (k := 6) e6 (by decide)), Op.lookupswitch.offset_cons, if_neg (tne (k := 7) e7 (by decide)), Op.lookupswitch.offset_cons, if_neg (tne (k := 8) e8 (by decide)), Op.lookupswitch.offset_cons, if_neg (tne (k := 9) e9 (by decide)), Op.lookupswitch.offset_cons, if_neg (tne (k := 37) e37 (by decide)), Op.lookupswitch.offset_cons, if_neg (tne (k := 42) e42 (by decide)), Op.lookupswitch.offset_cons, if_neg (tne (k := 43) e43 (by decide)), Op.lookupswitch.offset_cons, if_neg (tne (k := 45) e45 (by decide)), Op.lookupswitch.offset_cons, if_neg (tne (k := 47) e47 (by decide)), Op.lookupswitch.offset_cons, if_neg (tne (k := 60) e60 (by decide)), Op.lookupswitch.offset_cons, if_neg (tne (k := 61) e61 (by decide)), Op.lookupswitch.offset_cons, if_neg (tne (k := 62) e62 (by decide)), Op.lookupswitch.offset_nil]) (by decide) ?_
  refine zR.lconst (v := 0) dX8_joined_213 (by decide) ?_
  exact kR.lretO dX8_joined_214 h
theorem lX8_joined {sc : Nat × (Nat → Int32)} {μ : zM} (p0 : Int32) (p1 : Int32) (p2 : Int32) (w : Int64) (h : fX8_joined p0 p1 p2 = some w) : zC (zY0 sc) 2 0 0 mX8_joined [.int p0, .int p1, .int p2] μ (some (.long w), μ) := zC.of (by decide +kernel) (Nat.le_of_ble_eq_true rfl) rfl (eX8_joined p0 p1 p2 w h)
theorem dX8_bounded_0 : decode cX8_bounded 0 = .ok (.lload_n 0, 1) := by decide +kernel
theorem dX8_bounded_1 : decode cX8_bounded 1 = .ok (.ldc2_w 72, 3) := by decide +kernel
theorem dX8_bounded_4 : decode cX8_bounded 4 = .ok (.lcmp, 1) := by decide +kernel
theorem dX8_bounded_5 : decode cX8_bounded 5 = .ok (.ifCond .le 6, 3) := by decide +kernel
theorem dX8_bounded_8 : decode cX8_bounded 8 = .ok (.ldc 74, 2) := by decide +kernel
theorem dX8_bounded_10 : decode cX8_bounded 10 = .ok (.ireturn, 1) := by decide +kernel
theorem dX8_bounded_11 : decode cX8_bounded 11 = .ok (.lload_n 0, 1) := by decide +kernel
theorem dX8_bounded_12 : decode cX8_bounded 12 = .ok (.ldc2_w 75, 3) := by decide +kernel
theorem dX8_bounded_15 : decode cX8_bounded 15 = .ok (.lcmp, 1) := by decide +kernel
theorem dX8_bounded_16 : decode cX8_bounded 16 = .ok (.ifCond .ge 8, 3) := by decide +kernel
theorem dX8_bounded_19 : decode cX8_bounded 19 = .ok (.ldc 77, 2) := by decide +kernel
theorem dX8_bounded_21 : decode cX8_bounded 21 = .ok (.goto 5, 3) := by decide +kernel
theorem dX8_bounded_24 : decode cX8_bounded 24 = .ok (.lload_n 0, 1) := by decide +kernel
theorem dX8_bounded_25 : decode cX8_bounded 25 = .ok (.l2i, 1) := by decide +kernel
theorem dX8_bounded_26 : decode cX8_bounded 26 = .ok (.ireturn, 1) := by decide +kernel
def nX8_bounded (p0 : Int64) : Int32 := if p0 ≤ 1000000 then if ((-1000000)) ≤ p0 then ((p0) : Int64).toInt32 else (-1000000) else 1000000
theorem eX8_bounded {sc : Nat × (Nat → Int32)} {μ : zM} (p0 : Int64) (w : Int32) (h : nX8_bounded p0 = w) : zR (zY0 sc) 1 0 0 mX8_bounded 0 [(0, .long p0)] [] μ (some (.int w), μ) := by
  unfold nX8_bounded at h
  refine kR.lload_n dX8_bounded_0 0 rfl ?_
  refine zR.ldc2 (v := 1000000) dX8_bounded_1 clX8_72 ?_
  refine kR.lcmp_le (tgt := 11) dX8_bounded_4 dX8_bounded_5 (by decide) h (fun h => ?_) (fun h => ?_)
  · refine kR.lload_n dX8_bounded_11 0 rfl ?_
    refine zR.ldc2 (v := (-1000000)) dX8_bounded_12 clX8_75 ?_
    refine kR.lcmp_ge (tgt := 24) dX8_bounded_15 dX8_bounded_16 (by decide) h (fun h => ?_) (fun h => ?_)
    · refine kR.lload_n dX8_bounded_24 0 rfl ?_
      refine zR.l2i dX8_bounded_25 ?_
      exact kR.iret dX8_bounded_26 (nzI rfl _) h
    · refine zR.ldc (v := (-1000000)) dX8_bounded_19 ciX8_77 ?_
      refine zR.goto (tgt := 26) dX8_bounded_21 (by decide) ?_
      exact kR.iret dX8_bounded_26 (nzI rfl _) h
  · refine zR.ldc (v := 1000000) dX8_bounded_8 ciX8_74 ?_
    exact kR.iret dX8_bounded_10 (nzI rfl _) h
theorem lnX8_bounded {sc : Nat × (Nat → Int32)} {μ : zM} (p0 : Int64) : zC (zY0 sc) 1 0 0 mX8_bounded [.long p0] μ (some (.int (nX8_bounded p0)), μ) := zC.of (by decide +kernel) (Nat.le_of_ble_eq_true rfl) ⟨_, rfl⟩ (eX8_bounded p0 _ rfl)
def fJ9_min_f86c9 (p0 : Int64) (p2 : Int64) : Int64 := if p2 < p0 then p2 else p0
def fJ9_max_f86c9 (p0 : Int64) (p2 : Int64) : Int64 := if p0 < p2 then p2 else p0
def fX8_bounded (p0 : Int64) : Int32 := ((fJ9_max_f86c9 ((-1000000)) (fJ9_min_f86c9 1000000 p0)) : Int64).toInt32
theorem br_X8_bounded (p0 : Int64) : nX8_bounded p0 = fX8_bounded p0 := by
  unfold nX8_bounded fX8_bounded fJ9_max_f86c9 fJ9_min_f86c9
  by_cases c1 : p0 < 1000000
  · rw [if_pos (Int64.le_of_lt c1), if_pos c1]
    by_cases c2 : (-1000000 : Int64) < p0
    · rw [if_pos (Int64.le_of_lt c2), if_pos c2]
    · rw [if_neg c2]
      by_cases c3 : (-1000000 : Int64) ≤ p0
      · rw [if_pos c3, Int64.le_antisymm (Int64.not_lt.mp c2) c3]
      · rw [if_neg c3]
        decide
  · rw [if_neg c1, if_pos (by decide : (-1000000 : Int64) < 1000000)]
    by_cases c2 : p0 ≤ 1000000
    · have e := Int64.le_antisymm c2 (Int64.not_lt.mp c1)
      rw [if_pos c2, e]
      decide
    · rw [if_neg c2]
      decide
theorem lX8_bounded {sc : Nat × (Nat → Int32)} {μ : zM} (p0 : Int64) : zC (zY0 sc) 1 0 0 mX8_bounded [.long p0] μ (some (.int (fX8_bounded p0)), μ) := by
  rw [← br_X8_bounded]
  exact lnX8_bounded p0
theorem dX8_push_0 : decode cX8_push 0 = .ok (.aload_n 0, 1) := by decide +kernel
theorem dX8_push_1 : decode cX8_push 1 = .ok (.getfield 18, 3) := by decide +kernel
theorem dX8_push_4 : decode cX8_push 4 = .ok (.aload_n 0, 1) := by decide +kernel
theorem dX8_push_5 : decode cX8_push 5 = .ok (.getfield 15, 3) := by decide +kernel
theorem dX8_push_8 : decode cX8_push 8 = .ok (.arraylength, 1) := by decide +kernel
theorem dX8_push_9 : decode cX8_push 9 = .ok (.if_icmp .ge 23, 3) := by decide +kernel
theorem dX8_push_12 : decode cX8_push 12 = .ok (.aload_n 0, 1) := by decide +kernel
theorem dX8_push_13 : decode cX8_push 13 = .ok (.getfield 15, 3) := by decide +kernel
theorem dX8_push_16 : decode cX8_push 16 = .ok (.aload_n 0, 1) := by decide +kernel
theorem dX8_push_17 : decode cX8_push 17 = .ok (.getfield 18, 3) := by decide +kernel
theorem dX8_push_20 : decode cX8_push 20 = .ok (.iload_n 1, 1) := by decide +kernel
theorem dX8_push_21 : decode cX8_push 21 = .ok (.iastore, 1) := by decide +kernel
theorem dX8_push_22 : decode cX8_push 22 = .ok (.aload_n 0, 1) := by decide +kernel
theorem dX8_push_23 : decode cX8_push 23 = .ok (.dup, 1) := by decide +kernel
theorem dX8_push_24 : decode cX8_push 24 = .ok (.getfield 18, 3) := by decide +kernel
theorem dX8_push_27 : decode cX8_push 27 = .ok (.iconst 1, 1) := by decide +kernel
theorem dX8_push_28 : decode cX8_push 28 = .ok (.iadd, 1) := by decide +kernel
theorem dX8_push_29 : decode cX8_push 29 = .ok (.putfield 18, 3) := by decide +kernel
theorem dX8_push_32 : decode cX8_push 32 = .ok (.return_, 1) := by decide +kernel
def fX8_push (b0 : Bool) (p1 : Int32) (σ : zS) : Option zS := if 64 ≤ (iG σ (rp b0 + 11) 2) then some σ else wI σ (rp b0 + 13) 64 (iG σ (rp b0 + 11) 2) p1 fun σ1 => bnd (iS σ1 (rp b0 + 11) 2 ((iG σ1 (rp b0 + 11) 2) + 1)) fun σ2 => some σ2
theorem eX8_push {sc : Nat × (Nat → Int32)} (b0 : Bool) (p1 : Int32) (σ : zS) (w : zS) (h : fX8_push b0 p1 σ = some w) : zR (zY0 sc) 1 0 0 mX8_push 0 [(0, .ref (rp b0 + 11)), (1, .int p1)] [] (zE σ) (none, zE w) := by
  unfold fX8_push at h
  refine kR.aload_n dX8_push_0 0 rfl ?_
  refine kR.getI dX8_push_1 flX8_18 zcf8 (zq11 b0) (Or.inl rfl) ?_
  refine kR.aload_n dX8_push_4 0 rfl ?_
  refine kR.getR (v := (rp b0 + 13)) dX8_push_5 flX8_15 zcf8 (zq11 b0) (Or.inr ⟨_, rfl⟩) (zr11_1 _ b0) ?_
  refine zR.alen (v := 64) dX8_push_8 (Or.inl (zq13 b0)) (by rw [(zl13 b0)]; rfl) ?_
  refine kR.icmp_ge (tgt := 32) dX8_push_9 (by decide) h (fun h => ?_) (fun h => ?_)
  · exact kR.vret dX8_push_32 h
  · refine kR.aload_n dX8_push_12 0 rfl ?_
    refine kR.getR (v := (rp b0 + 13)) dX8_push_13 flX8_15 zcf8 (zq11 b0) (Or.inr ⟨_, rfl⟩) (zr11_1 _ b0) ?_
    refine kR.aload_n dX8_push_16 0 rfl ?_
    refine kR.getI dX8_push_17 flX8_18 zcf8 (zq11 b0) (Or.inl rfl) ?_
    refine kR.iload_n dX8_push_20 1 rfl ?_
    refine kR.iast dX8_push_21 (zq13 b0) (zl13 b0) h (fun σ1 h => ?_)
    refine kR.aload_n dX8_push_22 0 rfl ?_
    refine zR.dup dX8_push_23 rfl ?_
    refine kR.getI dX8_push_24 flX8_18 zcf8 (zq11 b0) (Or.inl rfl) ?_
    refine zR.iconst (v := 1) dX8_push_27 (by decide) ?_
    refine zR.iadd dX8_push_28 ?_
    refine kR.putI dX8_push_29 fpX8_18 zcf8 (zq11 b0) rfl h (fun σ2 h => ?_)
    exact kR.vret dX8_push_32 h
theorem lX8_push {sc : Nat × (Nat → Int32)} (b0 : Bool) (p1 : Int32) (σ : zS) (w : zS) (h : fX8_push b0 p1 σ = some w) : zC (zY0 sc) 1 0 0 mX8_push [.ref (rp b0 + 11), .int p1] (zE σ) (none, zE w) := zC.of (by decide +kernel) (Nat.le_of_ble_eq_true rfl) rfl (eX8_push b0 p1 σ w h)
theorem dX8_valueOf_0 : decode cX8_valueOf 0 = .ok (.aload_n 0, 1) := by decide +kernel
theorem dX8_valueOf_1 : decode cX8_valueOf 1 = .ok (.getfield 28, 3) := by decide +kernel
theorem dX8_valueOf_4 : decode cX8_valueOf 4 = .ok (.iload_n 1, 1) := by decide +kernel
theorem dX8_valueOf_5 : decode cX8_valueOf 5 = .ok (.invokestatic 37, 3) := by decide +kernel
theorem dX8_valueOf_8 : decode cX8_valueOf 8 = .ok (.aload_n 0, 1) := by decide +kernel
theorem dX8_valueOf_9 : decode cX8_valueOf 9 = .ok (.getfield 9, 3) := by decide +kernel
theorem dX8_valueOf_12 : decode cX8_valueOf 12 = .ok (.arraylength, 1) := by decide +kernel
theorem dX8_valueOf_13 : decode cX8_valueOf 13 = .ok (.invokestatic 41, 3) := by decide +kernel
theorem dX8_valueOf_16 : decode cX8_valueOf 16 = .ok (.istore_n 3, 1) := by decide +kernel
theorem dX8_valueOf_17 : decode cX8_valueOf 17 = .ok (.aload_n 0, 1) := by decide +kernel
theorem dX8_valueOf_18 : decode cX8_valueOf 18 = .ok (.iconst 0, 1) := by decide +kernel
theorem dX8_valueOf_19 : decode cX8_valueOf 19 = .ok (.putfield 18, 3) := by decide +kernel
theorem dX8_valueOf_22 : decode cX8_valueOf 22 = .ok (.iconst 0, 1) := by decide +kernel
theorem dX8_valueOf_23 : decode cX8_valueOf 23 = .ok (.aload_n 0, 1) := by decide +kernel
theorem dX8_valueOf_24 : decode cX8_valueOf 24 = .ok (.getfield 25, 3) := by decide +kernel
theorem dX8_valueOf_27 : decode cX8_valueOf 27 = .ok (.iload_n 1, 1) := by decide +kernel
theorem dX8_valueOf_28 : decode cX8_valueOf 28 = .ok (.invokestatic 37, 3) := by decide +kernel
theorem dX8_valueOf_31 : decode cX8_valueOf 31 = .ok (.invokestatic 47, 3) := by decide +kernel
theorem dX8_valueOf_34 : decode cX8_valueOf 34 = .ok (.istore 4, 2) := by decide +kernel
theorem dX8_valueOf_36 : decode cX8_valueOf 36 = .ok (.iload 4, 2) := by decide +kernel
theorem dX8_valueOf_38 : decode cX8_valueOf 38 = .ok (.iload_n 3, 1) := by decide +kernel
theorem dX8_valueOf_39 : decode cX8_valueOf 39 = .ok (.if_icmp .ge 149, 3) := by decide +kernel
theorem dX8_valueOf_42 : decode cX8_valueOf 42 = .ok (.aload_n 0, 1) := by decide +kernel
theorem dX8_valueOf_43 : decode cX8_valueOf 43 = .ok (.getfield 9, 3) := by decide +kernel
theorem dX8_valueOf_46 : decode cX8_valueOf 46 = .ok (.iload 4, 2) := by decide +kernel
theorem dX8_valueOf_48 : decode cX8_valueOf 48 = .ok (.iaload, 1) := by decide +kernel
theorem dX8_valueOf_49 : decode cX8_valueOf 49 = .ok (.bipush 64, 2) := by decide +kernel
theorem dX8_valueOf_51 : decode cX8_valueOf 51 = .ok (.irem, 1) := by decide +kernel
theorem dX8_valueOf_52 : decode cX8_valueOf 52 = .ok (.istore 5, 2) := by decide +kernel
theorem dX8_valueOf_54 : decode cX8_valueOf 54 = .ok (.aload_n 0, 1) := by decide +kernel
theorem dX8_valueOf_55 : decode cX8_valueOf 55 = .ok (.getfield 9, 3) := by decide +kernel
theorem dX8_valueOf_58 : decode cX8_valueOf 58 = .ok (.iload 4, 2) := by decide +kernel
theorem dX8_valueOf_60 : decode cX8_valueOf 60 = .ok (.iaload, 1) := by decide +kernel
theorem dX8_valueOf_61 : decode cX8_valueOf 61 = .ok (.bipush 64, 2) := by decide +kernel
theorem dX8_valueOf_63 : decode cX8_valueOf 63 = .ok (.idiv, 1) := by decide +kernel
theorem dX8_valueOf_64 : decode cX8_valueOf 64 = .ok (.istore 6, 2) := by decide +kernel
theorem dX8_valueOf_66 : decode cX8_valueOf 66 = .ok (.iload 5, 2) := by decide +kernel
theorem dX8_valueOf_68 : decode cX8_valueOf 68 = .ok (.iconst 1, 1) := by decide +kernel
theorem dX8_valueOf_69 : decode cX8_valueOf 69 = .ok (.if_icmp .ne 12, 3) := by decide +kernel
theorem dX8_valueOf_72 : decode cX8_valueOf 72 = .ok (.aload_n 0, 1) := by decide +kernel
theorem dX8_valueOf_73 : decode cX8_valueOf 73 = .ok (.iload 6, 2) := by decide +kernel
theorem dX8_valueOf_75 : decode cX8_valueOf 75 = .ok (.invokevirtual 50, 3) := by decide +kernel
theorem dX8_valueOf_78 : decode cX8_valueOf 78 = .ok (.goto 104, 3) := by decide +kernel
theorem dX8_valueOf_81 : decode cX8_valueOf 81 = .ok (.iload 5, 2) := by decide +kernel
theorem dX8_valueOf_83 : decode cX8_valueOf 83 = .ok (.iconst 2, 1) := by decide +kernel
theorem dX8_valueOf_84 : decode cX8_valueOf 84 = .ok (.if_icmp .ne 16, 3) := by decide +kernel
theorem dX8_valueOf_87 : decode cX8_valueOf 87 = .ok (.aload_n 0, 1) := by decide +kernel
theorem dX8_valueOf_88 : decode cX8_valueOf 88 = .ok (.aload_n 2, 1) := by decide +kernel
theorem dX8_valueOf_89 : decode cX8_valueOf 89 = .ok (.iload 6, 2) := by decide +kernel
theorem dX8_valueOf_91 : decode cX8_valueOf 91 = .ok (.invokestatic 37, 3) := by decide +kernel
theorem dX8_valueOf_94 : decode cX8_valueOf 94 = .ok (.invokevirtual 50, 3) := by decide +kernel
theorem dX8_valueOf_97 : decode cX8_valueOf 97 = .ok (.goto 85, 3) := by decide +kernel
theorem dX8_valueOf_100 : decode cX8_valueOf 100 = .ok (.iload 5, 2) := by decide +kernel
theorem dX8_valueOf_102 : decode cX8_valueOf 102 = .ok (.iconst 4, 1) := by decide +kernel
theorem dX8_valueOf_103 : decode cX8_valueOf 103 = .ok (.if_icmp .eq 16, 3) := by decide +kernel
theorem dX8_valueOf_106 : decode cX8_valueOf 106 = .ok (.iload 5, 2) := by decide +kernel
theorem dX8_valueOf_108 : decode cX8_valueOf 108 = .ok (.iconst 3, 1) := by decide +kernel
theorem dX8_valueOf_109 : decode cX8_valueOf 109 = .ok (.if_icmp .ne 24, 3) := by decide +kernel
theorem dX8_valueOf_112 : decode cX8_valueOf 112 = .ok (.aload_n 0, 1) := by decide +kernel
theorem dX8_valueOf_113 : decode cX8_valueOf 113 = .ok (.invokevirtual 54, 3) := by decide +kernel
theorem dX8_valueOf_116 : decode cX8_valueOf 116 = .ok (.ifCond .ne 17, 3) := by decide +kernel
theorem dX8_valueOf_119 : decode cX8_valueOf 119 = .ok (.iload 4, 2) := by decide +kernel
theorem dX8_valueOf_121 : decode cX8_valueOf 121 = .ok (.iload 6, 2) := by decide +kernel
theorem dX8_valueOf_123 : decode cX8_valueOf 123 = .ok (.iconst 1, 1) := by decide +kernel
theorem dX8_valueOf_124 : decode cX8_valueOf 124 = .ok (.isub, 1) := by decide +kernel
theorem dX8_valueOf_125 : decode cX8_valueOf 125 = .ok (.invokestatic 47, 3) := by decide +kernel
theorem dX8_valueOf_128 : decode cX8_valueOf 128 = .ok (.istore 4, 2) := by decide +kernel
theorem dX8_valueOf_130 : decode cX8_valueOf 130 = .ok (.goto 52, 3) := by decide +kernel
theorem dX8_valueOf_133 : decode cX8_valueOf 133 = .ok (.iload 5, 2) := by decide +kernel
theorem dX8_valueOf_135 : decode cX8_valueOf 135 = .ok (.iconst 5, 1) := by decide +kernel
theorem dX8_valueOf_136 : decode cX8_valueOf 136 = .ok (.if_icmp .ne 16, 3) := by decide +kernel
theorem dX8_valueOf_139 : decode cX8_valueOf 139 = .ok (.aload_n 0, 1) := by decide +kernel
theorem dX8_valueOf_140 : decode cX8_valueOf 140 = .ok (.iconst 1, 1) := by decide +kernel
theorem dX8_valueOf_141 : decode cX8_valueOf 141 = .ok (.aload_n 0, 1) := by decide +kernel
theorem dX8_valueOf_142 : decode cX8_valueOf 142 = .ok (.invokevirtual 54, 3) := by decide +kernel
theorem dX8_valueOf_145 : decode cX8_valueOf 145 = .ok (.isub, 1) := by decide +kernel
theorem dX8_valueOf_146 : decode cX8_valueOf 146 = .ok (.invokevirtual 50, 3) := by decide +kernel
theorem dX8_valueOf_149 : decode cX8_valueOf 149 = .ok (.goto 33, 3) := by decide +kernel
theorem dX8_valueOf_152 : decode cX8_valueOf 152 = .ok (.iload 5, 2) := by decide +kernel
theorem dX8_valueOf_154 : decode cX8_valueOf 154 = .ok (.iconst 3, 1) := by decide +kernel
theorem dX8_valueOf_155 : decode cX8_valueOf 155 = .ok (.if_icmp .eq 27, 3) := by decide +kernel
theorem dX8_valueOf_158 : decode cX8_valueOf 158 = .ok (.aload_n 0, 1) := by decide +kernel
theorem dX8_valueOf_159 : decode cX8_valueOf 159 = .ok (.invokevirtual 54, 3) := by decide +kernel
theorem dX8_valueOf_162 : decode cX8_valueOf 162 = .ok (.istore 7, 2) := by decide +kernel
theorem dX8_valueOf_164 : decode cX8_valueOf 164 = .ok (.aload_n 0, 1) := by decide +kernel
theorem dX8_valueOf_165 : decode cX8_valueOf 165 = .ok (.iload 5, 2) := by decide +kernel
theorem dX8_valueOf_167 : decode cX8_valueOf 167 = .ok (.aload_n 0, 1) := by decide +kernel
theorem dX8_valueOf_168 : decode cX8_valueOf 168 = .ok (.invokevirtual 54, 3) := by decide +kernel
theorem dX8_valueOf_171 : decode cX8_valueOf 171 = .ok (.iload 7, 2) := by decide +kernel
theorem dX8_valueOf_173 : decode cX8_valueOf 173 = .ok (.invokestatic 58, 3) := by decide +kernel
theorem dX8_valueOf_176 : decode cX8_valueOf 176 = .ok (.invokestatic 62, 3) := by decide +kernel
theorem dX8_valueOf_179 : decode cX8_valueOf 179 = .ok (.invokevirtual 50, 3) := by decide +kernel
theorem dX8_valueOf_182 : decode cX8_valueOf 182 = .ok (.iinc 4 1, 3) := by decide +kernel
theorem dX8_valueOf_185 : decode cX8_valueOf 185 = .ok (.goto (-149), 3) := by decide +kernel
theorem dX8_valueOf_188 : decode cX8_valueOf 188 = .ok (.aload_n 0, 1) := by decide +kernel
theorem dX8_valueOf_189 : decode cX8_valueOf 189 = .ok (.invokevirtual 54, 3) := by decide +kernel
theorem dX8_valueOf_192 : decode cX8_valueOf 192 = .ok (.ireturn, 1) := by decide +kernel
def fX8_valueOf_164 (b0 : Bool) (a2 : Nat) (n2 : Nat) (r36 : Int32 → Int32 → zS → Option (Int32 × zS)) (x3 : Int32) (x4 : Int32) (σ : zS) : Option (Int32 × zS) := r36 x3 (x4 + 1) σ
theorem kX8_valueOf_182 {sc : Nat × (Nat → Int32)} (b0 : Bool) (a2 : Nat) (n2 : Nat) (ha2 : ∀ σ, zAt (zY0 sc) (zE σ) a2 20) (hna2 : (zY0 sc).2.1 a2 = n2) (hma2 : n2 ≤ 2147483647) (r36 : Int32 → Int32 → zS → Option (Int32 × zS)) (hr36 : ∀ (x3 : Int32) (x4 : Int32) (σ : zS) (w : Int32 × zS), r36 x3 x4 σ = some w → zR (zY0 sc) 3 0 0 mX8_valueOf 36 [(0, .ref (rp b0 + 11)), (2, .ref a2), (3, .int x3), (4, .int x4)] [] (zE σ) (some (.int w.1), zE w.2)) (x3 : Int32) (x4 : Int32) (σ : zS) (w : Int32 × zS) (h : fX8_valueOf_164 b0 a2 n2 r36 x3 x4 σ = some w) : zR (zY0 sc) 3 0 0 mX8_valueOf 182 [(0, .ref (rp b0 + 11)), (2, .ref a2), (3, .int x3), (4, .int x4)] [] (zE σ) (some (.int w.1), zE w.2) := by
  unfold fX8_valueOf_164 at h
  refine zR.iinc 3 (v := x4 + 1) (ls' := [(4, .int (x4 + 1)), (0, .ref (rp b0 + 11)), (2, .ref a2), (3, .int x3)]) dX8_valueOf_182 rfl rfl (by decide) rfl ?_
  refine zR.goto (tgt := 36) dX8_valueOf_185 (by decide) ?_
  refine zR.sub [1, 2, 3, 0] rfl ?_
  exact hr36 _ _ _ _ h
def fX8_valueOf_101 (b0 : Bool) (a2 : Nat) (n2 : Nat) (r36 : Int32 → Int32 → zS → Option (Int32 × zS)) (x3 : Int32) (x4 : Int32) (x6 : Int32) (σ : zS) : Option (Int32 × zS) := fX8_valueOf_164 b0 a2 n2 r36 x3 (fJ9_max_7cf53 x4 (x6 - 1)) σ
theorem kX8_valueOf_119 {sc : Nat × (Nat → Int32)} (b0 : Bool) (a2 : Nat) (n2 : Nat) (ha2 : ∀ σ, zAt (zY0 sc) (zE σ) a2 20) (hna2 : (zY0 sc).2.1 a2 = n2) (hma2 : n2 ≤ 2147483647) (r36 : Int32 → Int32 → zS → Option (Int32 × zS)) (hr36 : ∀ (x3 : Int32) (x4 : Int32) (σ : zS) (w : Int32 × zS), r36 x3 x4 σ = some w → zR (zY0 sc) 3 0 0 mX8_valueOf 36 [(0, .ref (rp b0 + 11)), (2, .ref a2), (3, .int x3), (4, .int x4)] [] (zE σ) (some (.int w.1), zE w.2)) (x3 : Int32) (x4 : Int32) (x6 : Int32) (σ : zS) (w : Int32 × zS) (h : fX8_valueOf_101 b0 a2 n2 r36 x3 x4 x6 σ = some w) : zR (zY0 sc) 3 0 0 mX8_valueOf 119 [(0, .ref (rp b0 + 11)), (2, .ref a2), (3, .int x3), (4, .int x4), (6, .int x6)] [] (zE σ) (some (.int w.1), zE w.2) := by
  unfold fX8_valueOf_101 at h
  refine kR.iload dX8_valueOf_119 3 rfl ?_
  refine kR.iload dX8_valueOf_121 4 rfl ?_
  refine zR.iconst (v := 1) dX8_valueOf_123 (by decide) ?_
  refine zR.isub dX8_valueOf_124 ?_
  refine kR.cSi [.int x4, .int (x6 - 1)] dX8_valueOf_125 rfl (by decide) (Or.inl mwX8_47) rfl (Nat.le_of_ble_eq_true rfl) (lJ9_max_7cf53 x4 (x6 - 1)) ?_
  refine zR.istore (i := 4) (ls' := [(4, .int (fJ9_max_7cf53 x4 (x6 - 1))), (0, .ref (rp b0 + 11)), (2, .ref a2), (3, .int x3), (6, .int x6)]) dX8_valueOf_128 (by decide) rfl ?_
  refine zR.goto (tgt := 182) dX8_valueOf_130 (by decide) ?_
  refine zR.sub [1, 2, 3, 0] rfl ?_
  exact kX8_valueOf_182 b0 a2 n2 ha2 hna2 hma2 r36 hr36 _ _ _ _ h
def fX8_valueOf_115 (b0 : Bool) (a2 : Nat) (n2 : Nat) (r36 : Int32 → Int32 → zS → Option (Int32 × zS)) (x3 : Int32) (x4 : Int32) (x5 : Int32) (σ : zS) : Option (Int32 × zS) := if x5 = 5 then bnc (fX8_pop b0 σ) fun v21 σ19 => bnr (fX8_push b0 (1 - v21) σ19) fun σ22 => fX8_valueOf_164 b0 a2 n2 r36 x3 x4 σ22 else if x5 = 3 then fX8_valueOf_164 b0 a2 n2 r36 x3 x4 σ else bnc (fX8_pop b0 σ) fun v11 σ9 => bnc (fX8_pop b0 σ9) fun v14 σ12 => bnr (fX8_joined x5 v14 v11) fun v15 => bnr (fX8_push b0 (fX8_bounded v15) σ12) fun σ17 => fX8_valueOf_164 b0 a2 n2 r36 x3 x4 σ17
theorem kX8_valueOf_133 {sc : Nat × (Nat → Int32)} (b0 : Bool) (a2 : Nat) (n2 : Nat) (ha2 : ∀ σ, zAt (zY0 sc) (zE σ) a2 20) (hna2 : (zY0 sc).2.1 a2 = n2) (hma2 : n2 ≤ 2147483647) (r36 : Int32 → Int32 → zS → Option (Int32 × zS)) (hr36 : ∀ (x3 : Int32) (x4 : Int32) (σ : zS) (w : Int32 × zS), r36 x3 x4 σ = some w → zR (zY0 sc) 3 0 0 mX8_valueOf 36 [(0, .ref (rp b0 + 11)), (2, .ref a2), (3, .int x3), (4, .int x4)] [] (zE σ) (some (.int w.1), zE w.2)) (x3 : Int32) (x4 : Int32) (x5 : Int32) (σ : zS) (w : Int32 × zS) (h : fX8_valueOf_115 b0 a2 n2 r36 x3 x4 x5 σ = some w) : zR (zY0 sc) 3 0 0 mX8_valueOf 133 [(0, .ref (rp b0 + 11)), (2, .ref a2), (3, .int x3), (4, .int x4), (5, .int x5)] [] (zE σ) (some (.int w.1), zE w.2) := by
  unfold fX8_valueOf_115 at h
  refine kR.iload dX8_valueOf_133 4 rfl ?_
  refine zR.iconst (v := 5) dX8_valueOf_135 (by decide) ?_
  refine kR.icmp_ne (tgt := 152) dX8_valueOf_136 (by decide) h (fun h => ?_) (fun h => ?_)
  · refine kR.iload dX8_valueOf_152 4 rfl ?_
    refine zR.iconst (v := 3) dX8_valueOf_154 (by decide) ?_
    refine kR.icmp_eq (tgt := 182) dX8_valueOf_155 (by decide) h (fun h => ?_) (fun h => ?_)
    · refine zR.sub [0, 1, 2, 3] rfl ?_
      exact kX8_valueOf_182 b0 a2 n2 ha2 hna2 hma2 r36 hr36 _ _ _ _ h
    · refine kR.aload_n dX8_valueOf_158 0 rfl ?_
      obtain ⟨v11, σ9, e10, h⟩ := bnc_some h
      refine kR.cVi [] dX8_valueOf_159 rfl (by decide) mwX8_54 (zq11 b0) (by decide) rfl rfl (Nat.le_of_ble_eq_true rfl) (lX8_pop b0 σ _ e10) ?_
      refine zR.istore (i := 7) (ls' := [(7, .int v11), (0, .ref (rp b0 + 11)), (2, .ref a2), (3, .int x3), (4, .int x4), (5, .int x5)]) dX8_valueOf_162 (by decide) rfl ?_
      refine kR.aload_n dX8_valueOf_164 1 rfl ?_
      refine kR.iload dX8_valueOf_165 5 rfl ?_
      refine kR.aload_n dX8_valueOf_167 1 rfl ?_
      obtain ⟨v14, σ12, e13, h⟩ := bnc_some h
      refine kR.cVi [] dX8_valueOf_168 rfl (by decide) mwX8_54 (zq11 b0) (by decide) rfl rfl (Nat.le_of_ble_eq_true rfl) (lX8_pop b0 σ9 _ e13) ?_
      refine kR.iload dX8_valueOf_171 0 rfl ?_
      obtain ⟨v15, e16, h⟩ := bnr_some h
      refine kR.cSl [.int x5, .int v14, .int v11] dX8_valueOf_173 rfl (by decide) (Or.inl mwX8_58) rfl (Nat.le_of_ble_eq_true rfl) (lX8_joined x5 v14 v11 _ e16) ?_
      refine kR.cSi [.long v15] dX8_valueOf_176 rfl (by decide) (Or.inl mwX8_62) rfl (Nat.le_of_ble_eq_true rfl) (lX8_bounded v15) ?_
      obtain ⟨σ17, e18, h⟩ := bnr_some h
      refine kR.cVv [.int (fX8_bounded v15)] dX8_valueOf_179 rfl (by decide) mwX8_50 (zq11 b0) (by decide) rfl rfl (Nat.le_of_ble_eq_true rfl) (lX8_push b0 (fX8_bounded v15) σ12 _ e18) ?_
      refine zR.sub [1, 2, 3, 4] rfl ?_
      exact kX8_valueOf_182 b0 a2 n2 ha2 hna2 hma2 r36 hr36 _ _ _ _ h
  · refine kR.aload_n dX8_valueOf_139 0 rfl ?_
    refine zR.iconst (v := 1) dX8_valueOf_140 (by decide) ?_
    refine kR.aload_n dX8_valueOf_141 0 rfl ?_
    obtain ⟨v21, σ19, e20, h⟩ := bnc_some h
    refine kR.cVi [] dX8_valueOf_142 rfl (by decide) mwX8_54 (zq11 b0) (by decide) rfl rfl (Nat.le_of_ble_eq_true rfl) (lX8_pop b0 σ _ e20) ?_
    refine zR.isub dX8_valueOf_145 ?_
    obtain ⟨σ22, e23, h⟩ := bnr_some h
    refine kR.cVv [.int (1 - v21)] dX8_valueOf_146 rfl (by decide) mwX8_50 (zq11 b0) (by decide) rfl rfl (Nat.le_of_ble_eq_true rfl) (lX8_push b0 (1 - v21) σ19 _ e23) ?_
    refine zR.goto (tgt := 182) dX8_valueOf_149 (by decide) ?_
    refine zR.sub [0, 1, 2, 3] rfl ?_
    exact kX8_valueOf_182 b0 a2 n2 ha2 hna2 hma2 r36 hr36 _ _ _ _ h
def fX8_valueOf_20 (b0 : Bool) (a2 : Nat) (n2 : Nat) : Nat → Int32 → Int32 → zS → Option (Int32 × zS)
  | 0, _, _, _ => none
  | f + 1, x3, x4, σ => if x3 ≤ x4 then bnc (fX8_pop b0 σ) fun v6 σ4 => some (v6, σ4) else aI σ (rp b0 + 12) 1600 x4 fun v7 => aI σ (rp b0 + 12) 1600 x4 fun v8 => if (v7 - v7 / 64 * 64) = 1 then bnr (fX8_push b0 (v8 / 64) σ) fun σ30 => fX8_valueOf_164 b0 a2 n2 (fX8_valueOf_20 b0 a2 n2 f) x3 x4 σ30 else if (v7 - v7 / 64 * 64) = 2 then aI σ a2 n2 (v8 / 64) fun v27 => bnr (fX8_push b0 v27 σ) fun σ28 => fX8_valueOf_164 b0 a2 n2 (fX8_valueOf_20 b0 a2 n2 f) x3 x4 σ28 else if (v7 - v7 / 64 * 64) = 4 then fX8_valueOf_101 b0 a2 n2 (fX8_valueOf_20 b0 a2 n2 f) x3 x4 (v8 / 64) σ else if (v7 - v7 / 64 * 64) = 3 then bnc (fX8_pop b0 σ) fun v26 σ24 => if v26 = 0 then fX8_valueOf_101 b0 a2 n2 (fX8_valueOf_20 b0 a2 n2 f) x3 x4 (v8 / 64) σ24 else fX8_valueOf_115 b0 a2 n2 (fX8_valueOf_20 b0 a2 n2 f) x3 x4 (v7 - v7 / 64 * 64) σ24 else fX8_valueOf_115 b0 a2 n2 (fX8_valueOf_20 b0 a2 n2 f) x3 x4 (v7 - v7 / 64 * 64) σ
theorem kX8_valueOf_36 {sc : Nat × (Nat → Int32)} (b0 : Bool) (a2 : Nat) (n2 : Nat) (ha2 : ∀ σ, zAt (zY0 sc) (zE σ) a2 20) (hna2 : (zY0 sc).2.1 a2 = n2) (hma2 : n2 ≤ 2147483647) : ∀ (fuel : Nat) (x3 : Int32) (x4 : Int32) (σ : zS) (w : Int32 × zS) (h : fX8_valueOf_20 b0 a2 n2 fuel x3 x4 σ = some w), zR (zY0 sc) 3 0 0 mX8_valueOf 36 [(0, .ref (rp b0 + 11)), (2, .ref a2), (3, .int x3), (4, .int x4)] [] (zE σ) (some (.int w.1), zE w.2) := by
  intro fuel
  induction fuel with
  | zero => intro x3 x4 σ w h; exact nomatch h
  | succ f ih =>
    intro x3 x4 σ w h
    rw [fX8_valueOf_20] at h
    refine kR.iload dX8_valueOf_36 3 rfl ?_
    refine kR.iload_n dX8_valueOf_38 2 rfl ?_
    refine kR.icmp_ge (tgt := 188) dX8_valueOf_39 (by decide) h (fun h => ?_) (fun h => ?_)
    · refine kR.aload_n dX8_valueOf_188 0 rfl ?_
      obtain ⟨v6, σ4, e5, h⟩ := bnc_some h
      refine kR.cVi [] dX8_valueOf_189 rfl (by decide) mwX8_54 (zq11 b0) (by decide) rfl rfl (Nat.le_of_ble_eq_true rfl) (lX8_pop b0 σ _ e5) ?_
      exact kR.iretW dX8_valueOf_192 (nzI rfl _) h
    · refine kR.aload_n dX8_valueOf_42 0 rfl ?_
      refine kR.getR (v := (rp b0 + 12)) dX8_valueOf_43 flX8_9 zcf8 (zq11 b0) (Or.inr ⟨_, rfl⟩) (zr11_0 _ b0) ?_
      refine kR.iload dX8_valueOf_46 3 rfl ?_
      refine kR.iald dX8_valueOf_48 (zq12 b0) (zl12 b0) h (fun v7 h => ?_)
      refine zR.bipush (v := 64) dX8_valueOf_49 (by decide) ?_
      refine zR.irem dX8_valueOf_51 (by decide) ?_
      refine zR.istore (i := 5) (ls' := [(5, .int (v7 - v7 / 64 * 64)), (0, .ref (rp b0 + 11)), (2, .ref a2), (3, .int x3), (4, .int x4)]) dX8_valueOf_52 (by decide) rfl ?_
      refine kR.aload_n dX8_valueOf_54 1 rfl ?_
      refine kR.getR (v := (rp b0 + 12)) dX8_valueOf_55 flX8_9 zcf8 (zq11 b0) (Or.inr ⟨_, rfl⟩) (zr11_0 _ b0) ?_
      refine kR.iload dX8_valueOf_58 4 rfl ?_
      refine kR.iald dX8_valueOf_60 (zq12 b0) (zl12 b0) h (fun v8 h => ?_)
      refine zR.bipush (v := 64) dX8_valueOf_61 (by decide) ?_
      refine zR.idiv dX8_valueOf_63 (by decide) ?_
      refine zR.istore (i := 6) (ls' := [(6, .int (v8 / 64)), (5, .int (v7 - v7 / 64 * 64)), (0, .ref (rp b0 + 11)), (2, .ref a2), (3, .int x3), (4, .int x4)]) dX8_valueOf_64 (by decide) rfl ?_
      refine kR.iload dX8_valueOf_66 1 rfl ?_
      refine zR.iconst (v := 1) dX8_valueOf_68 (by decide) ?_
      refine kR.icmp_ne (tgt := 81) dX8_valueOf_69 (by decide) h (fun h => ?_) (fun h => ?_)
      · refine kR.iload dX8_valueOf_81 1 rfl ?_
        refine zR.iconst (v := 2) dX8_valueOf_83 (by decide) ?_
        refine kR.icmp_ne (tgt := 100) dX8_valueOf_84 (by decide) h (fun h => ?_) (fun h => ?_)
        · refine kR.iload dX8_valueOf_100 1 rfl ?_
          refine zR.iconst (v := 4) dX8_valueOf_102 (by decide) ?_
          refine kR.icmp_eq (tgt := 119) dX8_valueOf_103 (by decide) h (fun h => ?_) (fun h => ?_)
          · refine zR.sub [2, 3, 4, 5, 0] rfl ?_
            exact kX8_valueOf_119 b0 a2 n2 ha2 hna2 hma2 (fX8_valueOf_20 b0 a2 n2 f) ih _ _ _ _ _ h
          · refine kR.iload dX8_valueOf_106 1 rfl ?_
            refine zR.iconst (v := 3) dX8_valueOf_108 (by decide) ?_
            refine kR.icmp_ne (tgt := 133) dX8_valueOf_109 (by decide) h (fun h => ?_) (fun h => ?_)
            · refine zR.sub [2, 3, 4, 5, 1] rfl ?_
              exact kX8_valueOf_133 b0 a2 n2 ha2 hna2 hma2 (fX8_valueOf_20 b0 a2 n2 f) ih _ _ _ _ _ h
            · refine kR.aload_n dX8_valueOf_112 2 rfl ?_
              obtain ⟨v26, σ24, e25, h⟩ := bnc_some h
              refine kR.cVi [] dX8_valueOf_113 rfl (by decide) mwX8_54 (zq11 b0) (by decide) rfl rfl (Nat.le_of_ble_eq_true rfl) (lX8_pop b0 σ _ e25) ?_
              refine kR.if_ne (tgt := 133) dX8_valueOf_116 (by decide) h (fun h => ?_) (fun h => ?_)
              · refine zR.sub [2, 3, 4, 5, 1] rfl ?_
                exact kX8_valueOf_133 b0 a2 n2 ha2 hna2 hma2 (fX8_valueOf_20 b0 a2 n2 f) ih _ _ _ _ _ h
              · refine zR.sub [2, 3, 4, 5, 0] rfl ?_
                exact kX8_valueOf_119 b0 a2 n2 ha2 hna2 hma2 (fX8_valueOf_20 b0 a2 n2 f) ih _ _ _ _ _ h
        · refine kR.aload_n dX8_valueOf_87 2 rfl ?_
          refine kR.aload_n dX8_valueOf_88 3 rfl ?_
          refine kR.iload dX8_valueOf_89 0 rfl ?_
          obtain ⟨v27, e0, h⟩ := aIv hma2 h
          refine kR.cSi [.ref a2, .int (v8 / 64)] dX8_valueOf_91 rfl (by decide) (Or.inr mwX8_37) rfl (Nat.le_of_ble_eq_true rfl) (lX10_valueAt a2 n2 σ ha2 hna2 hma2 (v8 / 64) _ e0) ?_
          obtain ⟨σ28, e29, h⟩ := bnr_some h
          refine kR.cVv [.int v27] dX8_valueOf_94 rfl (by decide) mwX8_50 (zq11 b0) (by decide) rfl rfl (Nat.le_of_ble_eq_true rfl) (lX8_push b0 v27 σ _ e29) ?_
          refine zR.goto (tgt := 182) dX8_valueOf_97 (by decide) ?_
          refine zR.sub [2, 3, 4, 5] rfl ?_
          exact kX8_valueOf_182 b0 a2 n2 ha2 hna2 hma2 (fX8_valueOf_20 b0 a2 n2 f) ih _ _ _ _ h
      · refine kR.aload_n dX8_valueOf_72 2 rfl ?_
        refine kR.iload dX8_valueOf_73 0 rfl ?_
        obtain ⟨σ30, e31, h⟩ := bnr_some h
        refine kR.cVv [.int (v8 / 64)] dX8_valueOf_75 rfl (by decide) mwX8_50 (zq11 b0) (by decide) rfl rfl (Nat.le_of_ble_eq_true rfl) (lX8_push b0 (v8 / 64) σ _ e31) ?_
        refine zR.goto (tgt := 182) dX8_valueOf_78 (by decide) ?_
        refine zR.sub [2, 3, 4, 5] rfl ?_
        exact kX8_valueOf_182 b0 a2 n2 ha2 hna2 hma2 (fX8_valueOf_20 b0 a2 n2 f) ih _ _ _ _ h
def nX8_valueOf (b0 : Bool) (a2 : Nat) (n2 : Nat) (p1 : Int32) (σ : zS) : Option (Int32 × zS) := aI σ (rp b0 + 15) 2 p1 fun v1 => bnd (iS σ (rp b0 + 11) 2 0) fun σ2 => aI σ2 (rp b0 + 14) 2 p1 fun v3 => fX8_valueOf_20 b0 a2 n2 zF (fJ9_min_7cf53 v1 1600) (fJ9_max_7cf53 0 v3) σ2
theorem eX8_valueOf {sc : Nat × (Nat → Int32)} (b0 : Bool) (a2 : Nat) (n2 : Nat) (ha2 : ∀ σ, zAt (zY0 sc) (zE σ) a2 20) (hna2 : (zY0 sc).2.1 a2 = n2) (hma2 : n2 ≤ 2147483647) (p1 : Int32) (σ : zS) (w : Int32 × zS) (h : nX8_valueOf b0 a2 n2 p1 σ = some w) : zR (zY0 sc) 3 0 0 mX8_valueOf 0 [(0, .ref (rp b0 + 11)), (1, .int p1), (2, .ref a2)] [] (zE σ) (some (.int w.1), zE w.2) := by
  unfold nX8_valueOf at h
  refine kR.aload_n dX8_valueOf_0 0 rfl ?_
  refine kR.getR (v := (rp b0 + 15)) dX8_valueOf_1 flX8_28 zcf8 (zq11 b0) (Or.inr ⟨_, rfl⟩) (zr11_5 _ b0) ?_
  refine kR.iload_n dX8_valueOf_4 1 rfl ?_
  obtain ⟨v1, e0, h⟩ := aIv (Nat.le_of_ble_eq_true rfl) h
  refine kR.cSi [.ref (rp b0 + 15), .int p1] dX8_valueOf_5 rfl (by decide) (Or.inr mwX8_37) rfl (Nat.le_of_ble_eq_true rfl) (lX10_valueAt (rp b0 + 15) 2 σ (fun _ => (zq15 b0)) (zl15 b0) (Nat.le_of_ble_eq_true rfl) p1 _ e0) ?_
  refine kR.aload_n dX8_valueOf_8 0 rfl ?_
  refine kR.getR (v := (rp b0 + 12)) dX8_valueOf_9 flX8_9 zcf8 (zq11 b0) (Or.inr ⟨_, rfl⟩) (zr11_0 _ b0) ?_
  refine zR.alen (v := 1600) dX8_valueOf_12 (Or.inl (zq12 b0)) (by rw [(zl12 b0)]; rfl) ?_
  refine kR.cSi [.int v1, .int 1600] dX8_valueOf_13 rfl (by decide) (Or.inl mwX8_41) rfl (Nat.le_of_ble_eq_true rfl) (lJ9_min_7cf53 v1 1600) ?_
  refine zR.istore_n (i := 3) (ls' := [(3, .int (fJ9_min_7cf53 v1 1600)), (0, .ref (rp b0 + 11)), (1, .int p1), (2, .ref a2)]) dX8_valueOf_16 rfl (by decide) rfl ?_
  refine kR.aload_n dX8_valueOf_17 1 rfl ?_
  refine zR.iconst (v := 0) dX8_valueOf_18 (by decide) ?_
  refine kR.putI dX8_valueOf_19 fpX8_18 zcf8 (zq11 b0) rfl h (fun σ2 h => ?_)
  refine zR.iconst (v := 0) dX8_valueOf_22 (by decide) ?_
  refine kR.aload_n dX8_valueOf_23 1 rfl ?_
  refine kR.getR (v := (rp b0 + 14)) dX8_valueOf_24 flX8_25 zcf8 (zq11 b0) (Or.inr ⟨_, rfl⟩) (zr11_4 _ b0) ?_
  refine kR.iload_n dX8_valueOf_27 2 rfl ?_
  obtain ⟨v3, e0, h⟩ := aIv (Nat.le_of_ble_eq_true rfl) h
  refine kR.cSi [.ref (rp b0 + 14), .int p1] dX8_valueOf_28 rfl (by decide) (Or.inr mwX8_37) rfl (Nat.le_of_ble_eq_true rfl) (lX10_valueAt (rp b0 + 14) 2 σ2 (fun _ => (zq14 b0)) (zl14 b0) (Nat.le_of_ble_eq_true rfl) p1 _ e0) ?_
  refine kR.cSi [.int 0, .int v3] dX8_valueOf_31 rfl (by decide) (Or.inl mwX8_47) rfl (Nat.le_of_ble_eq_true rfl) (lJ9_max_7cf53 0 v3) ?_
  refine zR.istore (i := 4) (ls' := [(4, .int (fJ9_max_7cf53 0 v3)), (3, .int (fJ9_min_7cf53 v1 1600)), (0, .ref (rp b0 + 11)), (1, .int p1), (2, .ref a2)]) dX8_valueOf_34 (by decide) rfl ?_
  refine zR.sub [2, 4, 1, 0] rfl ?_
  exact kX8_valueOf_36 b0 a2 n2 ha2 hna2 hma2 zF _ _ _ _ h
theorem lnX8_valueOf {sc : Nat × (Nat → Int32)} (b0 : Bool) (a2 : Nat) (n2 : Nat) (ha2 : ∀ σ, zAt (zY0 sc) (zE σ) a2 20) (hna2 : (zY0 sc).2.1 a2 = n2) (hma2 : n2 ≤ 2147483647) (p1 : Int32) (σ : zS) (w : Int32 × zS) (h : nX8_valueOf b0 a2 n2 p1 σ = some w) : zC (zY0 sc) 3 0 0 mX8_valueOf [.ref (rp b0 + 11), .int p1, .ref a2] (zE σ) (some (.int w.1), zE w.2) := zC.of (by decide +kernel) (Nat.le_of_ble_eq_true rfl) ⟨_, rfl⟩ (eX8_valueOf b0 a2 n2 ha2 hna2 hma2 p1 σ w h)
def fX8_valueOf (b0 : Bool) (a2 : Nat) (n2 : Nat) (p1 : Int32) (σ : zS) : Option (Int32 × zS) := aI σ (rp b0 + 15) 2 p1 fun v1 => bnd (iS σ (rp b0 + 11) 2 0) fun σ2 => aI σ2 (rp b0 + 14) 2 p1 fun v3 => fX8_valueOf_20 b0 a2 n2 zF v1 v3 σ2
theorem br_vo115 {b0 : Bool} {a2 n2 : Nat} {r r' : Int32 → Int32 → zS → Option (Int32 × zS)} {x y : Int32} (ih : ∀ k σ, zLe (r x k σ) (r' y k σ)) (k x5 : Int32) (σ : zS) : zLe (fX8_valueOf_115 b0 a2 n2 r x k x5 σ) (fX8_valueOf_115 b0 a2 n2 r' y k x5 σ) := by
  unfold fX8_valueOf_115 fX8_valueOf_164
  exact zLe.ite (zLe.bnc fun _ _ => zLe.bnr fun _ => ih _ _) (zLe.ite (ih _ _) (zLe.bnc fun _ _ => zLe.bnc fun _ _ => zLe.bnr fun _ => zLe.bnr fun _ => ih _ _))
theorem br_vO (b0 : Bool) (a2 n2 : Nat) (x y : Int32) (hy : y ≤ x) (hx : ∀ k : Int32, ixb k 1600 = true → ¬ x ≤ k → ¬ y ≤ k) : ∀ (f : Nat) (k : Int32) (σ : zS), zLe (fX8_valueOf_20 b0 a2 n2 f x k σ) (fX8_valueOf_20 b0 a2 n2 f y k σ) := by
  intro f
  induction f with
  | zero => intro k σ w h; exact nomatch h
  | succ f ih =>
    intro k σ w h
    rw [fX8_valueOf_20] at h ⊢
    by_cases c : x ≤ k
    · have c' : y ≤ k := Int32.le_trans hy c
      rw [if_pos c] at h
      rw [if_pos c']
      exact h
    · rw [if_neg c] at h
      have b := (bq_aI h).1
      rw [if_neg (hx k b c)]
      revert w
      refine zLe.aI fun v7 => zLe.aI fun v8 => ?_
      exact zLe.ite (zLe.bnr fun _ => ih _ _) (zLe.ite (zLe.aI fun _ => zLe.bnr fun _ => ih _ _) (zLe.ite (ih _ _) (zLe.ite (zLe.bnc fun _ _ => zLe.ite (ih _ _) (br_vo115 ih _ _ _)) (br_vo115 ih _ _ _))))
theorem br_vE (b0 : Bool) (a2 n2 : Nat) (x k : Int32) (f : Nat) (σ : zS) : zLe (fX8_valueOf_20 b0 a2 n2 f x k σ) (fX8_valueOf_20 b0 a2 n2 f (fJ9_min_7cf53 x 1600) (fJ9_max_7cf53 0 k) σ) := by
  have n0 : (0 : Int32).toInt = 0 := by decide
  have n16 : (1600 : Int32).toInt = 1600 := by decide
  have ey : (fJ9_min_7cf53 x 1600).toInt = min x.toInt 1600 := by
    unfold fJ9_min_7cf53
    by_cases c : (1600 : Int32) < x
    · rw [if_pos c]
      rw [Int32.lt_iff_toInt_lt] at c
      omega
    · rw [if_neg c]
      rw [Int32.lt_iff_toInt_lt] at c
      omega
  by_cases ck : 0 < k
  · have e : fJ9_max_7cf53 0 k = k := if_pos ck
    rw [e]
    refine br_vO b0 a2 n2 x _ ?_ ?_ f k σ
    · rw [Int32.le_iff_toInt_le, ey]
      omega
    · intro j b c
      simp only [ixb, Bool.and_eq_true, decide_eq_true_eq] at b
      rw [Int32.le_iff_toInt_le] at c ⊢
      rw [ey]
      omega
  · have e : fJ9_max_7cf53 0 k = 0 := if_neg ck
    rw [e]
    rw [Int32.lt_iff_toInt_lt, n0] at ck
    by_cases c0 : k = 0
    · rw [c0]
      refine br_vO b0 a2 n2 x _ ?_ ?_ f 0 σ
      · rw [Int32.le_iff_toInt_le, ey]
        omega
      · intro j b c
        simp only [ixb, Bool.and_eq_true, decide_eq_true_eq] at b
        rw [Int32.le_iff_toInt_le] at c ⊢
        rw [ey]
        omega
    · have c1 : k.toInt < 0 := by
        have : k.toInt ≠ 0 := fun z => c0 (Int32.toInt_inj.mp (by rw [z, n0]))
        omega
      intro w h
      cases f with
      | zero => exact nomatch h
      | succ f =>
        rw [fX8_valueOf_20] at h ⊢
        by_cases c : x ≤ k
        · rw [if_pos c] at h
          rw [Int32.le_iff_toInt_le] at c
          rw [if_pos (Int32.le_iff_toInt_le.mpr (by rw [ey, n0]; omega))]
          exact h
        · rw [if_neg c] at h
          have b := (bq_aI h).1
          simp only [ixb, Bool.and_eq_true, decide_eq_true_eq] at b
          omega
theorem br_X8_valueOf {b0 : Bool} {a2 n2 : Nat} {p1 : Int32} {σ : zS} {w : Int32 × zS} (h : fX8_valueOf b0 a2 n2 p1 σ = some w) : nX8_valueOf b0 a2 n2 p1 σ = some w := by
  unfold fX8_valueOf at h
  unfold nX8_valueOf
  obtain ⟨b1, h⟩ := bq_aI h
  rw [bq_aIi b1]
  unfold bnd at h ⊢
  obtain ⟨b2, h⟩ := bq_aI h
  dsimp only
  rw [bq_aIi b2]
  exact br_vE _ _ _ _ _ _ _ _ h
theorem lX8_valueOf {sc : Nat × (Nat → Int32)} (b0 : Bool) (a2 : Nat) (n2 : Nat) (ha2 : ∀ σ, zAt (zY0 sc) (zE σ) a2 20) (hna2 : (zY0 sc).2.1 a2 = n2) (hma2 : n2 ≤ 2147483647) (p1 : Int32) (σ : zS) (w : Int32 × zS) (h : fX8_valueOf b0 a2 n2 p1 σ = some w) : zC (zY0 sc) 3 0 0 mX8_valueOf [.ref (rp b0 + 11), .int p1, .ref a2] (zE σ) (some (.int w.1), zE w.2) := lnX8_valueOf b0 a2 n2 ha2 hna2 hma2 p1 σ w (br_X8_valueOf h)
theorem dX10_within_0 : decode cX10_within 0 = .ok (.iload_n 1, 1) := by decide +kernel
theorem dX10_within_1 : decode cX10_within 1 = .ok (.iload_n 2, 1) := by decide +kernel
theorem dX10_within_2 : decode cX10_within 2 = .ok (.iload_n 0, 1) := by decide +kernel
theorem dX10_within_3 : decode cX10_within 3 = .ok (.invokestatic 372, 3) := by decide +kernel
theorem dX10_within_6 : decode cX10_within 6 = .ok (.invokestatic 375, 3) := by decide +kernel
theorem dX10_within_9 : decode cX10_within 9 = .ok (.ireturn, 1) := by decide +kernel
def fX10_within (p0 : Int32) (p1 : Int32) (p2 : Int32) : Int32 := fJ9_max_7cf53 p1 (fJ9_min_7cf53 p2 p0)
theorem eX10_within {sc : Nat × (Nat → Int32)} {μ : zM} (p0 : Int32) (p1 : Int32) (p2 : Int32) (w : Int32) (h : fX10_within p0 p1 p2 = w) : zR (zY0 sc) 2 0 0 mX10_within 0 [(0, .int p0), (1, .int p1), (2, .int p2)] [] μ (some (.int w), μ) := by
  unfold fX10_within at h
  refine kR.iload_n dX10_within_0 1 rfl ?_
  refine kR.iload_n dX10_within_1 2 rfl ?_
  refine kR.iload_n dX10_within_2 0 rfl ?_
  refine kR.cSi [.int p2, .int p0] dX10_within_3 rfl (by decide) (Or.inl mwX10_372) rfl (Nat.le_of_ble_eq_true rfl) (lJ9_min_7cf53 p2 p0) ?_
  refine kR.cSi [.int p1, .int (fJ9_min_7cf53 p2 p0)] dX10_within_6 rfl (by decide) (Or.inl mwX10_375) rfl (Nat.le_of_ble_eq_true rfl) (lJ9_max_7cf53 p1 (fJ9_min_7cf53 p2 p0)) ?_
  exact kR.iret dX10_within_9 (nzI rfl _) h
theorem lX10_within {sc : Nat × (Nat → Int32)} {μ : zM} (p0 : Int32) (p1 : Int32) (p2 : Int32) : zC (zY0 sc) 2 0 0 mX10_within [.int p0, .int p1, .int p2] μ (some (.int (fX10_within p0 p1 p2)), μ) := zC.of (by decide +kernel) (Nat.le_of_ble_eq_true rfl) ⟨_, rfl⟩ (eX10_within p0 p1 p2 _ rfl)
theorem dX4_worthAmong_0 : decode cX4_worthAmong 0 = .ok (.aload_n 0, 1) := by decide +kernel
theorem dX4_worthAmong_1 : decode cX4_worthAmong 1 = .ok (.iload_n 1, 1) := by decide +kernel
theorem dX4_worthAmong_2 : decode cX4_worthAmong 2 = .ok (.iload_n 2, 1) := by decide +kernel
theorem dX4_worthAmong_3 : decode cX4_worthAmong 3 = .ok (.iload_n 3, 1) := by decide +kernel
theorem dX4_worthAmong_4 : decode cX4_worthAmong 4 = .ok (.invokevirtual 75, 3) := by decide +kernel
theorem dX4_worthAmong_7 : decode cX4_worthAmong 7 = .ok (.aload_n 0, 1) := by decide +kernel
theorem dX4_worthAmong_8 : decode cX4_worthAmong 8 = .ok (.getfield 22, 3) := by decide +kernel
theorem dX4_worthAmong_11 : decode cX4_worthAmong 11 = .ok (.getfield 62, 3) := by decide +kernel
theorem dX4_worthAmong_14 : decode cX4_worthAmong 14 = .ok (.iconst 0, 1) := by decide +kernel
theorem dX4_worthAmong_15 : decode cX4_worthAmong 15 = .ok (.aload_n 0, 1) := by decide +kernel
theorem dX4_worthAmong_16 : decode cX4_worthAmong 16 = .ok (.getfield 15, 3) := by decide +kernel
theorem dX4_worthAmong_19 : decode cX4_worthAmong 19 = .ok (.invokevirtual 68, 3) := by decide +kernel
theorem dX4_worthAmong_22 : decode cX4_worthAmong 22 = .ok (.sipush (-999), 3) := by decide +kernel
theorem dX4_worthAmong_25 : decode cX4_worthAmong 25 = .ok (.sipush 999, 3) := by decide +kernel
theorem dX4_worthAmong_28 : decode cX4_worthAmong 28 = .ok (.invokestatic 72, 3) := by decide +kernel
theorem dX4_worthAmong_31 : decode cX4_worthAmong 31 = .ok (.ireturn, 1) := by decide +kernel
def fX4_worthAmong (p1 : Int32) (p2 : Int32) (p3 : Int32) (σ : zS) : Option (Int32 × zS) := bnr (fX4_tellAmong p1 p2 p3 σ) fun σ1 => bnc (fX8_valueOf σ1.2.2.2.1 26 7 0 σ1) fun v5 σ3 => some (fX10_within v5 ((-999)) 999, σ3)
theorem eX4_worthAmong {sc : Nat × (Nat → Int32)} (p1 : Int32) (p2 : Int32) (p3 : Int32) (σ : zS) (w : Int32 × zS) (h : fX4_worthAmong p1 p2 p3 σ = some w) : zR (zY0 sc) 4 0 0 mX4_worthAmong 0 [(0, .ref 8), (1, .int p1), (2, .int p2), (3, .int p3)] [] (zE σ) (some (.int w.1), zE w.2) := by
  unfold fX4_worthAmong at h
  refine kR.aload_n dX4_worthAmong_0 0 rfl ?_
  refine kR.iload_n dX4_worthAmong_1 1 rfl ?_
  refine kR.iload_n dX4_worthAmong_2 2 rfl ?_
  refine kR.iload_n dX4_worthAmong_3 3 rfl ?_
  obtain ⟨σ1, e2, h⟩ := bnr_some h
  refine kR.cVv [.int p1, .int p2, .int p3] dX4_worthAmong_4 rfl (by decide) mwX4_75 zp8 (by decide) rfl rfl (Nat.le_of_ble_eq_true rfl) (lX4_tellAmong p1 p2 p3 σ _ e2) ?_
  refine kR.aload_n dX4_worthAmong_7 0 rfl ?_
  refine kR.getR (v := (rp σ1.2.2.2.1 + 0)) dX4_worthAmong_8 flX4_22 zcf4 zp8 (Or.inl ⟨_, rfl⟩) rfl ?_
  refine kR.getR (v := (rp σ1.2.2.2.1 + 11)) dX4_worthAmong_11 flX4_62 zcf6 (zq0 σ1.2.2.2.1) (Or.inl ⟨_, rfl⟩) (zr0_15 _ σ1.2.2.2.1) ?_
  refine zR.iconst (v := 0) dX4_worthAmong_14 (by decide) ?_
  refine kR.aload_n dX4_worthAmong_15 0 rfl ?_
  refine kR.getR (v := 26) dX4_worthAmong_16 flX4_15 zcf4 zp8 (Or.inr ⟨_, rfl⟩) rfl ?_
  obtain ⟨v5, σ3, e4, h⟩ := bnc_some h
  refine kR.cVi [.int 0, .ref 26] dX4_worthAmong_19 rfl (by decide) mwX4_68 (zq11 σ1.2.2.2.1) (by decide) rfl rfl (Nat.le_of_ble_eq_true rfl) (lX8_valueOf σ1.2.2.2.1 26 7 (fun _ => zp26) rfl (Nat.le_of_ble_eq_true rfl) 0 σ1 _ e4) ?_
  refine zR.sipush (v := (-999)) dX4_worthAmong_22 (by decide) ?_
  refine zR.sipush (v := 999) dX4_worthAmong_25 (by decide) ?_
  refine kR.cSi [.int v5, .int ((-999)), .int 999] dX4_worthAmong_28 rfl (by decide) (Or.inr mwX4_72) rfl (Nat.le_of_ble_eq_true rfl) (lX10_within v5 ((-999)) 999) ?_
  exact kR.iretW dX4_worthAmong_31 (nzI rfl _) h
theorem lX4_worthAmong {sc : Nat × (Nat → Int32)} (p1 : Int32) (p2 : Int32) (p3 : Int32) (σ : zS) (w : Int32 × zS) (h : fX4_worthAmong p1 p2 p3 σ = some w) : zC (zY0 sc) 4 0 0 mX4_worthAmong [.ref 8, .int p1, .int p2, .int p3] (zE σ) (some (.int w.1), zE w.2) := zC.of (by decide +kernel) (Nat.le_of_ble_eq_true rfl) ⟨_, rfl⟩ (eX4_worthAmong p1 p2 p3 σ w h)
theorem dX10_worth_0 : decode cX10_worth 0 = .ok (.aload_n 0, 1) := by decide +kernel
theorem dX10_worth_1 : decode cX10_worth 1 = .ok (.getfield 38, 3) := by decide +kernel
theorem dX10_worth_4 : decode cX10_worth 4 = .ok (.getfield 111, 3) := by decide +kernel
theorem dX10_worth_7 : decode cX10_worth 7 = .ok (.iload_n 1, 1) := by decide +kernel
theorem dX10_worth_8 : decode cX10_worth 8 = .ok (.iload_n 2, 1) := by decide +kernel
theorem dX10_worth_9 : decode cX10_worth 9 = .ok (.invokevirtual 206, 3) := by decide +kernel
theorem dX10_worth_12 : decode cX10_worth 12 = .ok (.ifCond .eq 10, 3) := by decide +kernel
theorem dX10_worth_15 : decode cX10_worth 15 = .ok (.iload_n 3, 1) := by decide +kernel
theorem dX10_worth_16 : decode cX10_worth 16 = .ok (.invokestatic 210, 3) := by decide +kernel
theorem dX10_worth_19 : decode cX10_worth 19 = .ok (.ifCond .ne 6, 3) := by decide +kernel
theorem dX10_worth_22 : decode cX10_worth 22 = .ok (.ldc 201, 2) := by decide +kernel
theorem dX10_worth_24 : decode cX10_worth 24 = .ok (.ireturn, 1) := by decide +kernel
theorem dX10_worth_25 : decode cX10_worth 25 = .ok (.aload_n 0, 1) := by decide +kernel
theorem dX10_worth_26 : decode cX10_worth 26 = .ok (.getfield 38, 3) := by decide +kernel
theorem dX10_worth_29 : decode cX10_worth 29 = .ok (.iload_n 2, 1) := by decide +kernel
theorem dX10_worth_30 : decode cX10_worth 30 = .ok (.iload_n 3, 1) := by decide +kernel
theorem dX10_worth_31 : decode cX10_worth 31 = .ok (.invokevirtual 217, 3) := by decide +kernel
theorem dX10_worth_34 : decode cX10_worth 34 = .ok (.aload_n 0, 1) := by decide +kernel
theorem dX10_worth_35 : decode cX10_worth 35 = .ok (.getfield 38, 3) := by decide +kernel
theorem dX10_worth_38 : decode cX10_worth 38 = .ok (.iload_n 1, 1) := by decide +kernel
theorem dX10_worth_39 : decode cX10_worth 39 = .ok (.iload_n 2, 1) := by decide +kernel
theorem dX10_worth_40 : decode cX10_worth 40 = .ok (.iload_n 3, 1) := by decide +kernel
theorem dX10_worth_41 : decode cX10_worth 41 = .ok (.invokevirtual 221, 3) := by decide +kernel
theorem dX10_worth_44 : decode cX10_worth 44 = .ok (.ireturn, 1) := by decide +kernel
def fX10_worth (p1 : Int32) (p2 : Int32) (p3 : Int32) (σ : zS) : Option (Int32 × zS) := if (fX6_hasBoth σ.2.2.2.1 σ p1 p2) = 0 then some ((-1000000000), σ) else if (fX10_isLength p3) = 0 then some ((-1000000000), σ) else bnr (fX4_allHold p2 p3 σ) fun σ1 => bnc (fX4_worthAmong p1 p2 p3 σ1) fun v5 σ3 => some (v5, σ3)
theorem eX10_worth {sc : Nat × (Nat → Int32)} (p1 : Int32) (p2 : Int32) (p3 : Int32) (σ : zS) (w : Int32 × zS) (h : fX10_worth p1 p2 p3 σ = some w) : zR (zY0 sc) 5 0 0 mX10_worth 0 [(0, .ref 1), (1, .int p1), (2, .int p2), (3, .int p3)] [] (zE σ) (some (.int w.1), zE w.2) := by
  unfold fX10_worth at h
  refine kR.aload_n dX10_worth_0 0 rfl ?_
  refine kR.getR (v := 8) dX10_worth_1 flX10_38 zcf10 zp1 (Or.inl ⟨_, rfl⟩) rfl ?_
  refine kR.getR (v := (rp σ.2.2.2.1 + 0)) dX10_worth_4 flX10_111 zcf4 zp8 (Or.inl ⟨_, rfl⟩) rfl ?_
  refine kR.iload_n dX10_worth_7 1 rfl ?_
  refine kR.iload_n dX10_worth_8 2 rfl ?_
  refine kR.cVi [.int p1, .int p2] dX10_worth_9 rfl (by decide) mwX10_206 (zq0 σ.2.2.2.1) (by decide) rfl rfl (Nat.le_of_ble_eq_true rfl) (lX6_hasBoth σ.2.2.2.1 σ p1 p2) ?_
  refine kR.if_eq (tgt := 22) dX10_worth_12 (by decide) h (fun h => ?_) (fun h => ?_)
  · refine zR.ldc (v := (-1000000000)) dX10_worth_22 ciX10_201 ?_
    exact kR.iretW dX10_worth_24 (nzI rfl _) h
  · refine kR.iload_n dX10_worth_15 3 rfl ?_
    refine kR.cSi [.int p3] dX10_worth_16 rfl (by decide) (Or.inl mwX10_210) rfl (Nat.le_of_ble_eq_true rfl) (lX10_isLength p3) ?_
    refine kR.if_ne (tgt := 25) dX10_worth_19 (by decide) h (fun h => ?_) (fun h => ?_)
    · refine kR.aload_n dX10_worth_25 0 rfl ?_
      refine kR.getR (v := 8) dX10_worth_26 flX10_38 zcf10 zp1 (Or.inl ⟨_, rfl⟩) rfl ?_
      refine kR.iload_n dX10_worth_29 2 rfl ?_
      refine kR.iload_n dX10_worth_30 3 rfl ?_
      obtain ⟨σ1, e2, h⟩ := bnr_some h
      refine kR.cVv [.int p2, .int p3] dX10_worth_31 rfl (by decide) mwX10_217 zp8 (by decide) rfl rfl (Nat.le_of_ble_eq_true rfl) (lX4_allHold p2 p3 σ _ e2) ?_
      refine kR.aload_n dX10_worth_34 0 rfl ?_
      refine kR.getR (v := 8) dX10_worth_35 flX10_38 zcf10 zp1 (Or.inl ⟨_, rfl⟩) rfl ?_
      refine kR.iload_n dX10_worth_38 1 rfl ?_
      refine kR.iload_n dX10_worth_39 2 rfl ?_
      refine kR.iload_n dX10_worth_40 3 rfl ?_
      obtain ⟨v5, σ3, e4, h⟩ := bnc_some h
      refine kR.cVi [.int p1, .int p2, .int p3] dX10_worth_41 rfl (by decide) mwX10_221 zp8 (by decide) rfl rfl (Nat.le_of_ble_eq_true rfl) (lX4_worthAmong p1 p2 p3 σ1 _ e4) ?_
      exact kR.iretW dX10_worth_44 (nzI rfl _) h
    · refine zR.ldc (v := (-1000000000)) dX10_worth_22 ciX10_201 ?_
      exact kR.iretW dX10_worth_24 (nzI rfl _) h
theorem lX10_worth {sc : Nat × (Nat → Int32)} (p1 : Int32) (p2 : Int32) (p3 : Int32) (σ : zS) (w : Int32 × zS) (h : fX10_worth p1 p2 p3 σ = some w) : zC (zY0 sc) 5 0 0 mX10_worth [.ref 1, .int p1, .int p2, .int p3] (zE σ) (some (.int w.1), zE w.2) := zC.of (by decide +kernel) (Nat.le_of_ble_eq_true rfl) ⟨_, rfl⟩ (eX10_worth p1 p2 p3 σ w h)
theorem dX4_tiredAlone_0 : decode cX4_tiredAlone 0 = .ok (.aload_n 0, 1) := by decide +kernel
theorem dX4_tiredAlone_1 : decode cX4_tiredAlone 1 = .ok (.getfield 22, 3) := by decide +kernel
theorem dX4_tiredAlone_4 : decode cX4_tiredAlone 4 = .ok (.getfield 62, 3) := by decide +kernel
theorem dX4_tiredAlone_7 : decode cX4_tiredAlone 7 = .ok (.iconst 1, 1) := by decide +kernel
theorem dX4_tiredAlone_8 : decode cX4_tiredAlone 8 = .ok (.invokevirtual 79, 3) := by decide +kernel
theorem dX4_tiredAlone_11 : decode cX4_tiredAlone 11 = .ok (.ifCond .ne 6, 3) := by decide +kernel
theorem dX4_tiredAlone_14 : decode cX4_tiredAlone 14 = .ok (.iload 4, 2) := by decide +kernel
theorem dX4_tiredAlone_16 : decode cX4_tiredAlone 16 = .ok (.ireturn, 1) := by decide +kernel
theorem dX4_tiredAlone_17 : decode cX4_tiredAlone 17 = .ok (.aload_n 0, 1) := by decide +kernel
theorem dX4_tiredAlone_18 : decode cX4_tiredAlone 18 = .ok (.iload_n 1, 1) := by decide +kernel
theorem dX4_tiredAlone_19 : decode cX4_tiredAlone 19 = .ok (.iload_n 2, 1) := by decide +kernel
theorem dX4_tiredAlone_20 : decode cX4_tiredAlone 20 = .ok (.iload_n 3, 1) := by decide +kernel
theorem dX4_tiredAlone_21 : decode cX4_tiredAlone 21 = .ok (.iload 4, 2) := by decide +kernel
theorem dX4_tiredAlone_23 : decode cX4_tiredAlone 23 = .ok (.invokevirtual 58, 3) := by decide +kernel
theorem dX4_tiredAlone_26 : decode cX4_tiredAlone 26 = .ok (.aload_n 0, 1) := by decide +kernel
theorem dX4_tiredAlone_27 : decode cX4_tiredAlone 27 = .ok (.getfield 22, 3) := by decide +kernel
theorem dX4_tiredAlone_30 : decode cX4_tiredAlone 30 = .ok (.getfield 62, 3) := by decide +kernel
theorem dX4_tiredAlone_33 : decode cX4_tiredAlone 33 = .ok (.iconst 1, 1) := by decide +kernel
theorem dX4_tiredAlone_34 : decode cX4_tiredAlone 34 = .ok (.aload_n 0, 1) := by decide +kernel
theorem dX4_tiredAlone_35 : decode cX4_tiredAlone 35 = .ok (.getfield 15, 3) := by decide +kernel
theorem dX4_tiredAlone_38 : decode cX4_tiredAlone 38 = .ok (.invokevirtual 68, 3) := by decide +kernel
theorem dX4_tiredAlone_41 : decode cX4_tiredAlone 41 = .ok (.iconst 0, 1) := by decide +kernel
theorem dX4_tiredAlone_42 : decode cX4_tiredAlone 42 = .ok (.bipush 60, 2) := by decide +kernel
theorem dX4_tiredAlone_44 : decode cX4_tiredAlone 44 = .ok (.invokestatic 72, 3) := by decide +kernel
theorem dX4_tiredAlone_47 : decode cX4_tiredAlone 47 = .ok (.ireturn, 1) := by decide +kernel
def fX4_tiredAlone (p1 : Int32) (p2 : Int32) (p3 : Int32) (p4 : Int32) (σ : zS) : Option (Int32 × zS) := bnr (fX8_isTold σ.2.2.2.1 σ 1) fun v1 => if v1 = 0 then some (p4, σ) else bnr (fX4_tellAlone p1 p2 p3 p4 σ) fun σ3 => bnc (fX8_valueOf σ3.2.2.2.1 26 7 1 σ3) fun v7 σ5 => some (fX10_within v7 0 60, σ5)
theorem eX4_tiredAlone {sc : Nat × (Nat → Int32)} (p1 : Int32) (p2 : Int32) (p3 : Int32) (p4 : Int32) (σ : zS) (w : Int32 × zS) (h : fX4_tiredAlone p1 p2 p3 p4 σ = some w) : zR (zY0 sc) 4 0 0 mX4_tiredAlone 0 [(0, .ref 8), (1, .int p1), (2, .int p2), (3, .int p3), (4, .int p4)] [] (zE σ) (some (.int w.1), zE w.2) := by
  unfold fX4_tiredAlone at h
  refine kR.aload_n dX4_tiredAlone_0 0 rfl ?_
  refine kR.getR (v := (rp σ.2.2.2.1 + 0)) dX4_tiredAlone_1 flX4_22 zcf4 zp8 (Or.inl ⟨_, rfl⟩) rfl ?_
  refine kR.getR (v := (rp σ.2.2.2.1 + 11)) dX4_tiredAlone_4 flX4_62 zcf6 (zq0 σ.2.2.2.1) (Or.inl ⟨_, rfl⟩) (zr0_15 _ σ.2.2.2.1) ?_
  refine zR.iconst (v := 1) dX4_tiredAlone_7 (by decide) ?_
  obtain ⟨v1, e2, h⟩ := bnr_some h
  refine kR.cVi [.int 1] dX4_tiredAlone_8 rfl (by decide) mwX4_79 (zq11 σ.2.2.2.1) (by decide) rfl rfl (Nat.le_of_ble_eq_true rfl) (lX8_isTold σ.2.2.2.1 σ 1 _ e2) ?_
  refine kR.if_ne (tgt := 17) dX4_tiredAlone_11 (by decide) h (fun h => ?_) (fun h => ?_)
  · refine kR.aload_n dX4_tiredAlone_17 0 rfl ?_
    refine kR.iload_n dX4_tiredAlone_18 1 rfl ?_
    refine kR.iload_n dX4_tiredAlone_19 2 rfl ?_
    refine kR.iload_n dX4_tiredAlone_20 3 rfl ?_
    refine kR.iload dX4_tiredAlone_21 4 rfl ?_
    obtain ⟨σ3, e4, h⟩ := bnr_some h
    refine kR.cVv [.int p1, .int p2, .int p3, .int p4] dX4_tiredAlone_23 rfl (by decide) mwX4_58 zp8 (by decide) rfl rfl (Nat.le_of_ble_eq_true rfl) (lX4_tellAlone p1 p2 p3 p4 σ _ e4) ?_
    refine kR.aload_n dX4_tiredAlone_26 0 rfl ?_
    refine kR.getR (v := (rp σ3.2.2.2.1 + 0)) dX4_tiredAlone_27 flX4_22 zcf4 zp8 (Or.inl ⟨_, rfl⟩) rfl ?_
    refine kR.getR (v := (rp σ3.2.2.2.1 + 11)) dX4_tiredAlone_30 flX4_62 zcf6 (zq0 σ3.2.2.2.1) (Or.inl ⟨_, rfl⟩) (zr0_15 _ σ3.2.2.2.1) ?_
    refine zR.iconst (v := 1) dX4_tiredAlone_33 (by decide) ?_
    refine kR.aload_n dX4_tiredAlone_34 0 rfl ?_
    refine kR.getR (v := 26) dX4_tiredAlone_35 flX4_15 zcf4 zp8 (Or.inr ⟨_, rfl⟩) rfl ?_
    obtain ⟨v7, σ5, e6, h⟩ := bnc_some h
    refine kR.cVi [.int 1, .ref 26] dX4_tiredAlone_38 rfl (by decide) mwX4_68 (zq11 σ3.2.2.2.1) (by decide) rfl rfl (Nat.le_of_ble_eq_true rfl) (lX8_valueOf σ3.2.2.2.1 26 7 (fun _ => zp26) rfl (Nat.le_of_ble_eq_true rfl) 1 σ3 _ e6) ?_
    refine zR.iconst (v := 0) dX4_tiredAlone_41 (by decide) ?_
    refine zR.bipush (v := 60) dX4_tiredAlone_42 (by decide) ?_
    refine kR.cSi [.int v7, .int 0, .int 60] dX4_tiredAlone_44 rfl (by decide) (Or.inr mwX4_72) rfl (Nat.le_of_ble_eq_true rfl) (lX10_within v7 0 60) ?_
    exact kR.iretW dX4_tiredAlone_47 (nzI rfl _) h
  · refine kR.iload dX4_tiredAlone_14 4 rfl ?_
    exact kR.iretW dX4_tiredAlone_16 (nzI rfl _) h
theorem lX4_tiredAlone {sc : Nat × (Nat → Int32)} (p1 : Int32) (p2 : Int32) (p3 : Int32) (p4 : Int32) (σ : zS) (w : Int32 × zS) (h : fX4_tiredAlone p1 p2 p3 p4 σ = some w) : zC (zY0 sc) 4 0 0 mX4_tiredAlone [.ref 8, .int p1, .int p2, .int p3, .int p4] (zE σ) (some (.int w.1), zE w.2) := zC.of (by decide +kernel) (Nat.le_of_ble_eq_true rfl) ⟨_, rfl⟩ (eX4_tiredAlone p1 p2 p3 p4 σ w h)
theorem dX10_tired_0 : decode cX10_tired 0 = .ok (.aload_n 0, 1) := by decide +kernel
theorem dX10_tired_1 : decode cX10_tired 1 = .ok (.getfield 38, 3) := by decide +kernel
theorem dX10_tired_4 : decode cX10_tired 4 = .ok (.getfield 111, 3) := by decide +kernel
theorem dX10_tired_7 : decode cX10_tired 7 = .ok (.iload_n 1, 1) := by decide +kernel
theorem dX10_tired_8 : decode cX10_tired 8 = .ok (.iload_n 2, 1) := by decide +kernel
theorem dX10_tired_9 : decode cX10_tired 9 = .ok (.invokevirtual 206, 3) := by decide +kernel
theorem dX10_tired_12 : decode cX10_tired 12 = .ok (.ifCond .eq 10, 3) := by decide +kernel
theorem dX10_tired_15 : decode cX10_tired 15 = .ok (.iload_n 3, 1) := by decide +kernel
theorem dX10_tired_16 : decode cX10_tired 16 = .ok (.invokestatic 210, 3) := by decide +kernel
theorem dX10_tired_19 : decode cX10_tired 19 = .ok (.ifCond .ne 5, 3) := by decide +kernel
theorem dX10_tired_22 : decode cX10_tired 22 = .ok (.iconst (-1), 1) := by decide +kernel
theorem dX10_tired_23 : decode cX10_tired 23 = .ok (.ireturn, 1) := by decide +kernel
theorem dX10_tired_24 : decode cX10_tired 24 = .ok (.iload 4, 2) := by decide +kernel
theorem dX10_tired_26 : decode cX10_tired 26 = .ok (.ifCond .lt 9, 3) := by decide +kernel
theorem dX10_tired_29 : decode cX10_tired 29 = .ok (.iload 4, 2) := by decide +kernel
theorem dX10_tired_31 : decode cX10_tired 31 = .ok (.iload_n 3, 1) := by decide +kernel
theorem dX10_tired_32 : decode cX10_tired 32 = .ok (.if_icmp .le 5, 3) := by decide +kernel
theorem dX10_tired_35 : decode cX10_tired 35 = .ok (.iconst (-1), 1) := by decide +kernel
theorem dX10_tired_36 : decode cX10_tired 36 = .ok (.ireturn, 1) := by decide +kernel
theorem dX10_tired_37 : decode cX10_tired 37 = .ok (.aload_n 0, 1) := by decide +kernel
theorem dX10_tired_38 : decode cX10_tired 38 = .ok (.getfield 38, 3) := by decide +kernel
theorem dX10_tired_41 : decode cX10_tired 41 = .ok (.iload_n 2, 1) := by decide +kernel
theorem dX10_tired_42 : decode cX10_tired 42 = .ok (.iload_n 3, 1) := by decide +kernel
theorem dX10_tired_43 : decode cX10_tired 43 = .ok (.iload 4, 2) := by decide +kernel
theorem dX10_tired_45 : decode cX10_tired 45 = .ok (.aload_n 0, 1) := by decide +kernel
theorem dX10_tired_46 : decode cX10_tired 46 = .ok (.getfield 19, 3) := by decide +kernel
theorem dX10_tired_49 : decode cX10_tired 49 = .ok (.iload_n 1, 1) := by decide +kernel
theorem dX10_tired_50 : decode cX10_tired 50 = .ok (.invokevirtual 186, 3) := by decide +kernel
theorem dX10_tired_53 : decode cX10_tired 53 = .ok (.invokevirtual 224, 3) := by decide +kernel
theorem dX10_tired_56 : decode cX10_tired 56 = .ok (.ireturn, 1) := by decide +kernel
def fX10_tired (p1 : Int32) (p2 : Int32) (p3 : Int32) (p4 : Int32) (σ : zS) : Option (Int32 × zS) := if (fX6_hasBoth σ.2.2.2.1 σ p1 p2) = 0 then some ((-1), σ) else if (fX10_isLength p3) = 0 then some ((-1), σ) else if p4 < 0 then some ((-1), σ) else if p4 ≤ p3 then bnr (fX7_breathOf σ p1) fun v1 => bnc (fX4_tiredAlone p2 p3 p4 v1 σ) fun v5 σ3 => some (v5, σ3) else some ((-1), σ)
theorem eX10_tired {sc : Nat × (Nat → Int32)} (p1 : Int32) (p2 : Int32) (p3 : Int32) (p4 : Int32) (σ : zS) (w : Int32 × zS) (h : fX10_tired p1 p2 p3 p4 σ = some w) : zR (zY0 sc) 5 0 0 mX10_tired 0 [(0, .ref 1), (1, .int p1), (2, .int p2), (3, .int p3), (4, .int p4)] [] (zE σ) (some (.int w.1), zE w.2) := by
  unfold fX10_tired at h
  refine kR.aload_n dX10_tired_0 0 rfl ?_
  refine kR.getR (v := 8) dX10_tired_1 flX10_38 zcf10 zp1 (Or.inl ⟨_, rfl⟩) rfl ?_
  refine kR.getR (v := (rp σ.2.2.2.1 + 0)) dX10_tired_4 flX10_111 zcf4 zp8 (Or.inl ⟨_, rfl⟩) rfl ?_
  refine kR.iload_n dX10_tired_7 1 rfl ?_
  refine kR.iload_n dX10_tired_8 2 rfl ?_
  refine kR.cVi [.int p1, .int p2] dX10_tired_9 rfl (by decide) mwX10_206 (zq0 σ.2.2.2.1) (by decide) rfl rfl (Nat.le_of_ble_eq_true rfl) (lX6_hasBoth σ.2.2.2.1 σ p1 p2) ?_
  refine kR.if_eq (tgt := 22) dX10_tired_12 (by decide) h (fun h => ?_) (fun h => ?_)
  · refine zR.iconst (v := (-1)) dX10_tired_22 (by decide) ?_
    exact kR.iretW dX10_tired_23 (nzI rfl _) h
  · refine kR.iload_n dX10_tired_15 3 rfl ?_
    refine kR.cSi [.int p3] dX10_tired_16 rfl (by decide) (Or.inl mwX10_210) rfl (Nat.le_of_ble_eq_true rfl) (lX10_isLength p3) ?_
    refine kR.if_ne (tgt := 24) dX10_tired_19 (by decide) h (fun h => ?_) (fun h => ?_)
    · refine kR.iload dX10_tired_24 4 rfl ?_
      refine kR.if_lt (tgt := 35) dX10_tired_26 (by decide) h (fun h => ?_) (fun h => ?_)
      · refine zR.iconst (v := (-1)) dX10_tired_35 (by decide) ?_
        exact kR.iretW dX10_tired_36 (nzI rfl _) h
      · refine kR.iload dX10_tired_29 4 rfl ?_
        refine kR.iload_n dX10_tired_31 3 rfl ?_
        refine kR.icmp_le (tgt := 37) dX10_tired_32 (by decide) h (fun h => ?_) (fun h => ?_)
        · refine kR.aload_n dX10_tired_37 0 rfl ?_
          refine kR.getR (v := 8) dX10_tired_38 flX10_38 zcf10 zp1 (Or.inl ⟨_, rfl⟩) rfl ?_
          refine kR.iload_n dX10_tired_41 2 rfl ?_
          refine kR.iload_n dX10_tired_42 3 rfl ?_
          refine kR.iload dX10_tired_43 4 rfl ?_
          refine kR.aload_n dX10_tired_45 0 rfl ?_
          refine kR.getR (v := 4) dX10_tired_46 flX10_19 zcf10 zp1 (Or.inl ⟨_, rfl⟩) rfl ?_
          refine kR.iload_n dX10_tired_49 1 rfl ?_
          obtain ⟨v1, e2, h⟩ := bnr_some h
          refine kR.cVi [.int p1] dX10_tired_50 rfl (by decide) mwX10_186 zp4 (by decide) rfl rfl (Nat.le_of_ble_eq_true rfl) (lX7_breathOf σ p1 _ e2) ?_
          obtain ⟨v5, σ3, e4, h⟩ := bnc_some h
          refine kR.cVi [.int p2, .int p3, .int p4, .int v1] dX10_tired_53 rfl (by decide) mwX10_224 zp8 (by decide) rfl rfl (Nat.le_of_ble_eq_true rfl) (lX4_tiredAlone p2 p3 p4 v1 σ _ e4) ?_
          exact kR.iretW dX10_tired_56 (nzI rfl _) h
        · refine zR.iconst (v := (-1)) dX10_tired_35 (by decide) ?_
          exact kR.iretW dX10_tired_36 (nzI rfl _) h
    · refine zR.iconst (v := (-1)) dX10_tired_22 (by decide) ?_
      exact kR.iretW dX10_tired_23 (nzI rfl _) h
theorem lX10_tired {sc : Nat × (Nat → Int32)} (p1 : Int32) (p2 : Int32) (p3 : Int32) (p4 : Int32) (σ : zS) (w : Int32 × zS) (h : fX10_tired p1 p2 p3 p4 σ = some w) : zC (zY0 sc) 5 0 0 mX10_tired [.ref 1, .int p1, .int p2, .int p3, .int p4] (zE σ) (some (.int w.1), zE w.2) := zC.of (by decide +kernel) (Nat.le_of_ble_eq_true rfl) ⟨_, rfl⟩ (eX10_tired p1 p2 p3 p4 σ w h)
theorem dX10_setAt__0 : decode cX10_setAt_ 0 = .ok (.iload_n 1, 1) := by decide +kernel
theorem dX10_setAt__1 : decode cX10_setAt_ 1 = .ok (.ifCond .lt 13, 3) := by decide +kernel
theorem dX10_setAt__4 : decode cX10_setAt_ 4 = .ok (.iload_n 1, 1) := by decide +kernel
theorem dX10_setAt__5 : decode cX10_setAt_ 5 = .ok (.aload_n 0, 1) := by decide +kernel
theorem dX10_setAt__6 : decode cX10_setAt_ 6 = .ok (.arraylength, 1) := by decide +kernel
theorem dX10_setAt__7 : decode cX10_setAt_ 7 = .ok (.if_icmp .ge 7, 3) := by decide +kernel
theorem dX10_setAt__10 : decode cX10_setAt_ 10 = .ok (.aload_n 0, 1) := by decide +kernel
theorem dX10_setAt__11 : decode cX10_setAt_ 11 = .ok (.iload_n 1, 1) := by decide +kernel
theorem dX10_setAt__12 : decode cX10_setAt_ 12 = .ok (.lload_n 2, 1) := by decide +kernel
theorem dX10_setAt__13 : decode cX10_setAt_ 13 = .ok (.lastore, 1) := by decide +kernel
theorem dX10_setAt__14 : decode cX10_setAt_ 14 = .ok (.return_, 1) := by decide +kernel
def fX10_setAt_ (a0 : Nat) (n0 : Nat) (p1 : Int32) (p2 : Int64) (σ : zS) : Option zS := if p1 < 0 then some σ else if (Int32.ofNat n0) ≤ p1 then some σ else wL σ a0 n0 p1 p2 fun σ1 => some σ1
theorem eX10_setAt_ {sc : Nat × (Nat → Int32)} (a0 : Nat) (n0 : Nat) (ha0 : ∀ σ, zAt (zY0 sc) (zE σ) a0 21) (hna0 : (zY0 sc).2.1 a0 = n0) (hma0 : n0 ≤ 2147483647) (p1 : Int32) (p2 : Int64) (σ : zS) (w : zS) (h : fX10_setAt_ a0 n0 p1 p2 σ = some w) : zR (zY0 sc) 1 0 0 mX10_setAt_ 0 [(0, .ref a0), (1, .int p1), (2, .long p2)] [] (zE σ) (none, zE w) := by
  unfold fX10_setAt_ at h
  refine kR.iload_n dX10_setAt__0 1 rfl ?_
  refine kR.if_lt (tgt := 14) dX10_setAt__1 (by decide) h (fun h => ?_) (fun h => ?_)
  · exact kR.vret dX10_setAt__14 h
  · refine kR.iload_n dX10_setAt__4 1 rfl ?_
    refine kR.aload_n dX10_setAt__5 0 rfl ?_
    refine zR.alen (v := Int32.ofNat n0) dX10_setAt__6 (Or.inr (Or.inl (ha0 _))) (by rw [hna0]) ?_
    refine kR.icmp_ge (tgt := 14) dX10_setAt__7 (by decide) h (fun h => ?_) (fun h => ?_)
    · exact kR.vret dX10_setAt__14 h
    · refine kR.aload_n dX10_setAt__10 0 rfl ?_
      refine kR.iload_n dX10_setAt__11 1 rfl ?_
      refine kR.lload_n dX10_setAt__12 2 rfl ?_
      refine kR.last dX10_setAt__13 (ha0 _) hna0 h (fun σ1 h => ?_)
      exact kR.vret dX10_setAt__14 h
theorem lX10_setAt_ {sc : Nat × (Nat → Int32)} (a0 : Nat) (n0 : Nat) (ha0 : ∀ σ, zAt (zY0 sc) (zE σ) a0 21) (hna0 : (zY0 sc).2.1 a0 = n0) (hma0 : n0 ≤ 2147483647) (p1 : Int32) (p2 : Int64) (σ : zS) (w : zS) (h : fX10_setAt_ a0 n0 p1 p2 σ = some w) : zC (zY0 sc) 1 0 0 mX10_setAt_ [.ref a0, .int p1, .long p2] (zE σ) (none, zE w) := zC.of (by decide +kernel) (Nat.le_of_ble_eq_true rfl) rfl (eX10_setAt_ a0 n0 ha0 hna0 hma0 p1 p2 σ w h)
theorem wLv {β : Type} {σ : zS} {p n : Nat} {i : Int32} {v : Int64} {F : zS → Option β} {w : β} (hn : n ≤ 2147483647) (h : wL σ p n i v F = some w) : ∃ τ, fX10_setAt_ p n i v σ = some τ ∧ F τ = some w := by
  obtain ⟨h1, h2⟩ := bq_wL h
  obtain ⟨h3, h4⟩ := bq_ix hn h1
  refine ⟨lS σ p i.toNatClampNeg v, ?_, h2⟩
  unfold fX10_setAt_
  rw [if_neg h3, if_neg h4, bq_wLi h1]
theorem dJ7_fill_d0a16_0 : decode cJ7_fill_d0a16 0 = .ok (.iconst 0, 1) := by decide +kernel
theorem dJ7_fill_d0a16_1 : decode cJ7_fill_d0a16 1 = .ok (.istore_n 3, 1) := by decide +kernel
theorem dJ7_fill_d0a16_2 : decode cJ7_fill_d0a16 2 = .ok (.aload_n 0, 1) := by decide +kernel
theorem dJ7_fill_d0a16_3 : decode cJ7_fill_d0a16 3 = .ok (.arraylength, 1) := by decide +kernel
theorem dJ7_fill_d0a16_4 : decode cJ7_fill_d0a16 4 = .ok (.istore 4, 2) := by decide +kernel
theorem dJ7_fill_d0a16_6 : decode cJ7_fill_d0a16 6 = .ok (.iload_n 3, 1) := by decide +kernel
theorem dJ7_fill_d0a16_7 : decode cJ7_fill_d0a16 7 = .ok (.iload 4, 2) := by decide +kernel
theorem dJ7_fill_d0a16_9 : decode cJ7_fill_d0a16 9 = .ok (.if_icmp .ge 13, 3) := by decide +kernel
theorem dJ7_fill_d0a16_12 : decode cJ7_fill_d0a16 12 = .ok (.aload_n 0, 1) := by decide +kernel
theorem dJ7_fill_d0a16_13 : decode cJ7_fill_d0a16 13 = .ok (.iload_n 3, 1) := by decide +kernel
theorem dJ7_fill_d0a16_14 : decode cJ7_fill_d0a16 14 = .ok (.lload_n 1, 1) := by decide +kernel
theorem dJ7_fill_d0a16_15 : decode cJ7_fill_d0a16 15 = .ok (.lastore, 1) := by decide +kernel
theorem dJ7_fill_d0a16_16 : decode cJ7_fill_d0a16 16 = .ok (.iinc 3 1, 3) := by decide +kernel
theorem dJ7_fill_d0a16_19 : decode cJ7_fill_d0a16 19 = .ok (.goto (-13), 3) := by decide +kernel
theorem dJ7_fill_d0a16_22 : decode cJ7_fill_d0a16 22 = .ok (.return_, 1) := by decide +kernel
def fJ7_fill_d0a16_6 (a0 : Nat) (n0 : Nat) : Nat → Int64 → Int32 → Int32 → zS → Option zS
  | 0, _, _, _, _ => none
  | f + 1, x1, x3, x4, σ => if x4 ≤ x3 then some σ else wL σ a0 n0 x3 x1 fun σ1 => fJ7_fill_d0a16_6 a0 n0 f x1 (x3 + 1) x4 σ1
theorem kJ7_fill_d0a16_6 {sc : Nat × (Nat → Int32)} (a0 : Nat) (n0 : Nat) (ha0 : ∀ σ, zAt (zY0 sc) (zE σ) a0 21) (hna0 : (zY0 sc).2.1 a0 = n0) (hma0 : n0 ≤ 2147483647) : ∀ (fuel : Nat) (x1 : Int64) (x3 : Int32) (x4 : Int32) (σ : zS) (w : zS) (h : fJ7_fill_d0a16_6 a0 n0 fuel x1 x3 x4 σ = some w), zR (zY0 sc) 1 0 0 mJ7_fill_d0a16 6 [(0, .ref a0), (1, .long x1), (3, .int x3), (4, .int x4)] [] (zE σ) (none, zE w) := by
  intro fuel
  induction fuel with
  | zero => intro x1 x3 x4 σ w h; exact nomatch h
  | succ f ih =>
    intro x1 x3 x4 σ w h
    rw [fJ7_fill_d0a16_6] at h
    refine kR.iload_n dJ7_fill_d0a16_6 2 rfl ?_
    refine kR.iload dJ7_fill_d0a16_7 3 rfl ?_
    refine kR.icmp_ge (tgt := 22) dJ7_fill_d0a16_9 (by decide) h (fun h => ?_) (fun h => ?_)
    · exact kR.vret dJ7_fill_d0a16_22 h
    · refine kR.aload_n dJ7_fill_d0a16_12 0 rfl ?_
      refine kR.iload_n dJ7_fill_d0a16_13 2 rfl ?_
      refine kR.lload_n dJ7_fill_d0a16_14 1 rfl ?_
      refine kR.last dJ7_fill_d0a16_15 (ha0 _) hna0 h (fun σ1 h => ?_)
      refine zR.iinc 2 (v := x3 + 1) (ls' := [(3, .int (x3 + 1)), (0, .ref a0), (1, .long x1), (4, .int x4)]) dJ7_fill_d0a16_16 rfl rfl (by decide) rfl ?_
      refine zR.goto (tgt := 6) dJ7_fill_d0a16_19 (by decide) ?_
      refine zR.sub [1, 2, 0, 3] rfl ?_
      exact ih _ _ _ _ _ h
def fJ7_fill_d0a16 (a0 : Nat) (n0 : Nat) (p1 : Int64) (σ : zS) : Option zS := fJ7_fill_d0a16_6 a0 n0 zF p1 0 (Int32.ofNat n0) σ
theorem eJ7_fill_d0a16 {sc : Nat × (Nat → Int32)} (a0 : Nat) (n0 : Nat) (ha0 : ∀ σ, zAt (zY0 sc) (zE σ) a0 21) (hna0 : (zY0 sc).2.1 a0 = n0) (hma0 : n0 ≤ 2147483647) (p1 : Int64) (σ : zS) (w : zS) (h : fJ7_fill_d0a16 a0 n0 p1 σ = some w) : zR (zY0 sc) 1 0 0 mJ7_fill_d0a16 0 [(0, .ref a0), (1, .long p1)] [] (zE σ) (none, zE w) := by
  unfold fJ7_fill_d0a16 at h
  refine zR.iconst (v := 0) dJ7_fill_d0a16_0 (by decide) ?_
  refine zR.istore_n (i := 3) (ls' := [(3, .int 0), (0, .ref a0), (1, .long p1)]) dJ7_fill_d0a16_1 rfl (by decide) rfl ?_
  refine kR.aload_n dJ7_fill_d0a16_2 1 rfl ?_
  refine zR.alen (v := Int32.ofNat n0) dJ7_fill_d0a16_3 (Or.inr (Or.inl (ha0 _))) (by rw [hna0]) ?_
  refine zR.istore (i := 4) (ls' := [(4, .int (Int32.ofNat n0)), (3, .int 0), (0, .ref a0), (1, .long p1)]) dJ7_fill_d0a16_4 (by decide) rfl ?_
  refine zR.sub [2, 3, 1, 0] rfl ?_
  exact kJ7_fill_d0a16_6 a0 n0 ha0 hna0 hma0 zF _ _ _ _ _ h
theorem lJ7_fill_d0a16 {sc : Nat × (Nat → Int32)} (a0 : Nat) (n0 : Nat) (ha0 : ∀ σ, zAt (zY0 sc) (zE σ) a0 21) (hna0 : (zY0 sc).2.1 a0 = n0) (hma0 : n0 ≤ 2147483647) (p1 : Int64) (σ : zS) (w : zS) (h : fJ7_fill_d0a16 a0 n0 p1 σ = some w) : zC (zY0 sc) 1 0 0 mJ7_fill_d0a16 [.ref a0, .long p1] (zE σ) (none, zE w) := zC.of (by decide +kernel) (Nat.le_of_ble_eq_true rfl) rfl (eJ7_fill_d0a16 a0 n0 ha0 hna0 hma0 p1 σ w h)
theorem dX0_tunnelAt_0 : decode cX0_tunnelAt 0 = .ok (.aload_n 0, 1) := by decide +kernel
theorem dX0_tunnelAt_1 : decode cX0_tunnelAt 1 = .ok (.getfield 51, 3) := by decide +kernel
theorem dX0_tunnelAt_4 : decode cX0_tunnelAt 4 = .ok (.getfield 63, 3) := by decide +kernel
theorem dX0_tunnelAt_7 : decode cX0_tunnelAt 7 = .ok (.getfield 94, 3) := by decide +kernel
theorem dX0_tunnelAt_10 : decode cX0_tunnelAt 10 = .ok (.istore_n 2, 1) := by decide +kernel
theorem dX0_tunnelAt_11 : decode cX0_tunnelAt 11 = .ok (.iload_n 2, 1) := by decide +kernel
theorem dX0_tunnelAt_12 : decode cX0_tunnelAt 12 = .ok (.ifCond .le 14, 3) := by decide +kernel
theorem dX0_tunnelAt_15 : decode cX0_tunnelAt 15 = .ok (.aload_n 0, 1) := by decide +kernel
theorem dX0_tunnelAt_16 : decode cX0_tunnelAt 16 = .ok (.getfield 21, 3) := by decide +kernel
theorem dX0_tunnelAt_19 : decode cX0_tunnelAt 19 = .ok (.iload_n 1, 1) := by decide +kernel
theorem dX0_tunnelAt_20 : decode cX0_tunnelAt 20 = .ok (.iadd, 1) := by decide +kernel
theorem dX0_tunnelAt_21 : decode cX0_tunnelAt 21 = .ok (.iload_n 2, 1) := by decide +kernel
theorem dX0_tunnelAt_22 : decode cX0_tunnelAt 22 = .ok (.irem, 1) := by decide +kernel
theorem dX0_tunnelAt_23 : decode cX0_tunnelAt 23 = .ok (.goto 4, 3) := by decide +kernel
theorem dX0_tunnelAt_26 : decode cX0_tunnelAt 26 = .ok (.iconst 0, 1) := by decide +kernel
theorem dX0_tunnelAt_27 : decode cX0_tunnelAt 27 = .ok (.ireturn, 1) := by decide +kernel
def fX0_tunnelAt (σ : zS) (p1 : Int32) : Option Int32 := if (iG σ (rp σ.2.2.2.1 + 0) 1) ≤ 0 then some 0 else gd (¬ (iG σ (rp σ.2.2.2.1 + 0) 1) = 0) (bnd (((iG σ 27 4) + p1) - ((iG σ 27 4) + p1) / (iG σ (rp σ.2.2.2.1 + 0) 1) * (iG σ (rp σ.2.2.2.1 + 0) 1)) fun v1 => some v1)
theorem eX0_tunnelAt {sc : Nat × (Nat → Int32)} (σ : zS) (p1 : Int32) (w : Int32) (h : fX0_tunnelAt σ p1 = some w) : zR (zY0 sc) 1 0 0 mX0_tunnelAt 0 [(0, .ref 27), (1, .int p1)] [] (zE σ) (some (.int w), zE σ) := by
  unfold fX0_tunnelAt at h
  refine kR.aload_n dX0_tunnelAt_0 0 rfl ?_
  refine kR.getR (v := 8) dX0_tunnelAt_1 flX0_51 zcf0 zp27 (Or.inl ⟨_, rfl⟩) rfl ?_
  refine kR.getR (v := (rp σ.2.2.2.1 + 0)) dX0_tunnelAt_4 flX0_63 zcf4 zp8 (Or.inl ⟨_, rfl⟩) rfl ?_
  refine kR.getI dX0_tunnelAt_7 flX0_94 zcf6 (zq0 σ.2.2.2.1) (Or.inl rfl) ?_
  refine zR.istore_n (i := 2) (ls' := [(2, .int (iG σ (rp σ.2.2.2.1 + 0) 1)), (0, .ref 27), (1, .int p1)]) dX0_tunnelAt_10 rfl (by decide) rfl ?_
  refine kR.iload_n dX0_tunnelAt_11 0 rfl ?_
  refine kR.if_le (tgt := 26) dX0_tunnelAt_12 (by decide) h (fun h => ?_) (fun h => ?_)
  · refine zR.iconst (v := 0) dX0_tunnelAt_26 (by decide) ?_
    exact kR.iretO dX0_tunnelAt_27 (nzI rfl _) h
  · refine kR.aload_n dX0_tunnelAt_15 1 rfl ?_
    refine kR.getI dX0_tunnelAt_16 flX0_21 zcf0 zp27 (Or.inl rfl) ?_
    refine kR.iload_n dX0_tunnelAt_19 2 rfl ?_
    refine zR.iadd dX0_tunnelAt_20 ?_
    refine kR.iload_n dX0_tunnelAt_21 0 rfl ?_
    refine kR.irem dX0_tunnelAt_22 h (fun h => ?_)
    refine kR.nmI h (fun v1 h => ?_)
    refine zR.goto (tgt := 27) dX0_tunnelAt_23 (by decide) ?_
    exact kR.iretO dX0_tunnelAt_27 (nzI rfl _) h
theorem lX0_tunnelAt {sc : Nat × (Nat → Int32)} (σ : zS) (p1 : Int32) (w : Int32) (h : fX0_tunnelAt σ p1 = some w) : zC (zY0 sc) 1 0 0 mX0_tunnelAt [.ref 27, .int p1] (zE σ) (some (.int w), zE σ) := zC.of (by decide +kernel) (Nat.le_of_ble_eq_true rfl) ⟨_, rfl⟩ (eX0_tunnelAt σ p1 w h)
theorem dX4_worthAlone_0 : decode cX4_worthAlone 0 = .ok (.aload_n 0, 1) := by decide +kernel
theorem dX4_worthAlone_1 : decode cX4_worthAlone 1 = .ok (.iload_n 1, 1) := by decide +kernel
theorem dX4_worthAlone_2 : decode cX4_worthAlone 2 = .ok (.iload_n 2, 1) := by decide +kernel
theorem dX4_worthAlone_3 : decode cX4_worthAlone 3 = .ok (.iload_n 3, 1) := by decide +kernel
theorem dX4_worthAlone_4 : decode cX4_worthAlone 4 = .ok (.iload 4, 2) := by decide +kernel
theorem dX4_worthAlone_6 : decode cX4_worthAlone 6 = .ok (.invokevirtual 58, 3) := by decide +kernel
theorem dX4_worthAlone_9 : decode cX4_worthAlone 9 = .ok (.aload_n 0, 1) := by decide +kernel
theorem dX4_worthAlone_10 : decode cX4_worthAlone 10 = .ok (.getfield 22, 3) := by decide +kernel
theorem dX4_worthAlone_13 : decode cX4_worthAlone 13 = .ok (.getfield 62, 3) := by decide +kernel
theorem dX4_worthAlone_16 : decode cX4_worthAlone 16 = .ok (.iconst 0, 1) := by decide +kernel
theorem dX4_worthAlone_17 : decode cX4_worthAlone 17 = .ok (.aload_n 0, 1) := by decide +kernel
theorem dX4_worthAlone_18 : decode cX4_worthAlone 18 = .ok (.getfield 15, 3) := by decide +kernel
theorem dX4_worthAlone_21 : decode cX4_worthAlone 21 = .ok (.invokevirtual 68, 3) := by decide +kernel
theorem dX4_worthAlone_24 : decode cX4_worthAlone 24 = .ok (.sipush (-999), 3) := by decide +kernel
theorem dX4_worthAlone_27 : decode cX4_worthAlone 27 = .ok (.sipush 999, 3) := by decide +kernel
theorem dX4_worthAlone_30 : decode cX4_worthAlone 30 = .ok (.invokestatic 72, 3) := by decide +kernel
theorem dX4_worthAlone_33 : decode cX4_worthAlone 33 = .ok (.ireturn, 1) := by decide +kernel
def fX4_worthAlone (p1 : Int32) (p2 : Int32) (p3 : Int32) (p4 : Int32) (σ : zS) : Option (Int32 × zS) := bnr (fX4_tellAlone p1 p2 p3 p4 σ) fun σ1 => bnc (fX8_valueOf σ1.2.2.2.1 26 7 0 σ1) fun v5 σ3 => some (fX10_within v5 ((-999)) 999, σ3)
theorem eX4_worthAlone {sc : Nat × (Nat → Int32)} (p1 : Int32) (p2 : Int32) (p3 : Int32) (p4 : Int32) (σ : zS) (w : Int32 × zS) (h : fX4_worthAlone p1 p2 p3 p4 σ = some w) : zR (zY0 sc) 4 0 0 mX4_worthAlone 0 [(0, .ref 8), (1, .int p1), (2, .int p2), (3, .int p3), (4, .int p4)] [] (zE σ) (some (.int w.1), zE w.2) := by
  unfold fX4_worthAlone at h
  refine kR.aload_n dX4_worthAlone_0 0 rfl ?_
  refine kR.iload_n dX4_worthAlone_1 1 rfl ?_
  refine kR.iload_n dX4_worthAlone_2 2 rfl ?_
  refine kR.iload_n dX4_worthAlone_3 3 rfl ?_
  refine kR.iload dX4_worthAlone_4 4 rfl ?_
  obtain ⟨σ1, e2, h⟩ := bnr_some h
  refine kR.cVv [.int p1, .int p2, .int p3, .int p4] dX4_worthAlone_6 rfl (by decide) mwX4_58 zp8 (by decide) rfl rfl (Nat.le_of_ble_eq_true rfl) (lX4_tellAlone p1 p2 p3 p4 σ _ e2) ?_
  refine kR.aload_n dX4_worthAlone_9 0 rfl ?_
  refine kR.getR (v := (rp σ1.2.2.2.1 + 0)) dX4_worthAlone_10 flX4_22 zcf4 zp8 (Or.inl ⟨_, rfl⟩) rfl ?_
  refine kR.getR (v := (rp σ1.2.2.2.1 + 11)) dX4_worthAlone_13 flX4_62 zcf6 (zq0 σ1.2.2.2.1) (Or.inl ⟨_, rfl⟩) (zr0_15 _ σ1.2.2.2.1) ?_
  refine zR.iconst (v := 0) dX4_worthAlone_16 (by decide) ?_
  refine kR.aload_n dX4_worthAlone_17 0 rfl ?_
  refine kR.getR (v := 26) dX4_worthAlone_18 flX4_15 zcf4 zp8 (Or.inr ⟨_, rfl⟩) rfl ?_
  obtain ⟨v5, σ3, e4, h⟩ := bnc_some h
  refine kR.cVi [.int 0, .ref 26] dX4_worthAlone_21 rfl (by decide) mwX4_68 (zq11 σ1.2.2.2.1) (by decide) rfl rfl (Nat.le_of_ble_eq_true rfl) (lX8_valueOf σ1.2.2.2.1 26 7 (fun _ => zp26) rfl (Nat.le_of_ble_eq_true rfl) 0 σ1 _ e4) ?_
  refine zR.sipush (v := (-999)) dX4_worthAlone_24 (by decide) ?_
  refine zR.sipush (v := 999) dX4_worthAlone_27 (by decide) ?_
  refine kR.cSi [.int v5, .int ((-999)), .int 999] dX4_worthAlone_30 rfl (by decide) (Or.inr mwX4_72) rfl (Nat.le_of_ble_eq_true rfl) (lX10_within v5 ((-999)) 999) ?_
  exact kR.iretW dX4_worthAlone_33 (nzI rfl _) h
theorem lX4_worthAlone {sc : Nat × (Nat → Int32)} (p1 : Int32) (p2 : Int32) (p3 : Int32) (p4 : Int32) (σ : zS) (w : Int32 × zS) (h : fX4_worthAlone p1 p2 p3 p4 σ = some w) : zC (zY0 sc) 4 0 0 mX4_worthAlone [.ref 8, .int p1, .int p2, .int p3, .int p4] (zE σ) (some (.int w.1), zE w.2) := zC.of (by decide +kernel) (Nat.le_of_ble_eq_true rfl) ⟨_, rfl⟩ (eX4_worthAlone p1 p2 p3 p4 σ w h)
theorem dX10_valueAt__0 : decode cX10_valueAt_ 0 = .ok (.iload_n 1, 1) := by decide +kernel
theorem dX10_valueAt__1 : decode cX10_valueAt_ 1 = .ok (.ifCond .lt 15, 3) := by decide +kernel
theorem dX10_valueAt__4 : decode cX10_valueAt_ 4 = .ok (.iload_n 1, 1) := by decide +kernel
theorem dX10_valueAt__5 : decode cX10_valueAt_ 5 = .ok (.aload_n 0, 1) := by decide +kernel
theorem dX10_valueAt__6 : decode cX10_valueAt_ 6 = .ok (.arraylength, 1) := by decide +kernel
theorem dX10_valueAt__7 : decode cX10_valueAt_ 7 = .ok (.if_icmp .ge 9, 3) := by decide +kernel
theorem dX10_valueAt__10 : decode cX10_valueAt_ 10 = .ok (.aload_n 0, 1) := by decide +kernel
theorem dX10_valueAt__11 : decode cX10_valueAt_ 11 = .ok (.iload_n 1, 1) := by decide +kernel
theorem dX10_valueAt__12 : decode cX10_valueAt_ 12 = .ok (.laload, 1) := by decide +kernel
theorem dX10_valueAt__13 : decode cX10_valueAt_ 13 = .ok (.goto 4, 3) := by decide +kernel
theorem dX10_valueAt__16 : decode cX10_valueAt_ 16 = .ok (.lconst 0, 1) := by decide +kernel
theorem dX10_valueAt__17 : decode cX10_valueAt_ 17 = .ok (.lreturn, 1) := by decide +kernel
def fX10_valueAt_ (a0 : Nat) (n0 : Nat) (σ : zS) (p1 : Int32) : Option Int64 := if p1 < 0 then some 0 else if (Int32.ofNat n0) ≤ p1 then some 0 else aL σ a0 n0 p1 fun v1 => some v1
theorem eX10_valueAt_ {sc : Nat × (Nat → Int32)} (a0 : Nat) (n0 : Nat) (σ : zS) (ha0 : ∀ σ, zAt (zY0 sc) (zE σ) a0 21) (hna0 : (zY0 sc).2.1 a0 = n0) (hma0 : n0 ≤ 2147483647) (p1 : Int32) (w : Int64) (h : fX10_valueAt_ a0 n0 σ p1 = some w) : zR (zY0 sc) 1 0 0 mX10_valueAt_ 0 [(0, .ref a0), (1, .int p1)] [] (zE σ) (some (.long w), zE σ) := by
  unfold fX10_valueAt_ at h
  refine kR.iload_n dX10_valueAt__0 1 rfl ?_
  refine kR.if_lt (tgt := 16) dX10_valueAt__1 (by decide) h (fun h => ?_) (fun h => ?_)
  · refine zR.lconst (v := 0) dX10_valueAt__16 (by decide) ?_
    exact kR.lretO dX10_valueAt__17 h
  · refine kR.iload_n dX10_valueAt__4 1 rfl ?_
    refine kR.aload_n dX10_valueAt__5 0 rfl ?_
    refine zR.alen (v := Int32.ofNat n0) dX10_valueAt__6 (Or.inr (Or.inl (ha0 _))) (by rw [hna0]) ?_
    refine kR.icmp_ge (tgt := 16) dX10_valueAt__7 (by decide) h (fun h => ?_) (fun h => ?_)
    · refine zR.lconst (v := 0) dX10_valueAt__16 (by decide) ?_
      exact kR.lretO dX10_valueAt__17 h
    · refine kR.aload_n dX10_valueAt__10 0 rfl ?_
      refine kR.iload_n dX10_valueAt__11 1 rfl ?_
      refine kR.lald dX10_valueAt__12 (ha0 _) hna0 h (fun v1 h => ?_)
      refine zR.goto (tgt := 17) dX10_valueAt__13 (by decide) ?_
      exact kR.lretO dX10_valueAt__17 h
theorem lX10_valueAt_ {sc : Nat × (Nat → Int32)} (a0 : Nat) (n0 : Nat) (σ : zS) (ha0 : ∀ σ, zAt (zY0 sc) (zE σ) a0 21) (hna0 : (zY0 sc).2.1 a0 = n0) (hma0 : n0 ≤ 2147483647) (p1 : Int32) (w : Int64) (h : fX10_valueAt_ a0 n0 σ p1 = some w) : zC (zY0 sc) 1 0 0 mX10_valueAt_ [.ref a0, .int p1] (zE σ) (some (.long w), zE σ) := zC.of (by decide +kernel) (Nat.le_of_ble_eq_true rfl) rfl (eX10_valueAt_ a0 n0 σ ha0 hna0 hma0 p1 w h)
theorem aLv {β : Type} {σ : zS} {p n : Nat} {i : Int32} {F : Int64 → Option β} {w : β} (hn : n ≤ 2147483647) (h : aL σ p n i F = some w) : ∃ v, fX10_valueAt_ p n σ i = some v ∧ F v = some w := by
  obtain ⟨h1, h2⟩ := bq_aL h
  obtain ⟨h3, h4⟩ := bq_ix hn h1
  refine ⟨lG σ p i.toNatClampNeg, ?_, h2⟩
  unfold fX10_valueAt_
  rw [if_neg h3, if_neg h4, bq_aLi h1]
theorem bq_val (σ : zS) (p n : Nat) (i : Int32) (hn : n ≤ 2147483647) : ∃ m, fX10_valueAt_ p n σ i = some m ∧ (ixb i n = true → m = lG σ p i.toNatClampNeg) := by
  unfold fX10_valueAt_
  by_cases c1 : i < 0
  · exact ⟨0, if_pos c1, fun h => absurd c1 (bq_ix hn h).1⟩
  · by_cases c2 : Int32.ofNat n ≤ i
    · exact ⟨0, by rw [if_neg c1, if_pos c2], fun h => absurd c2 (bq_ix hn h).2⟩
    · exact ⟨lG σ p i.toNatClampNeg, by rw [if_neg c1, if_neg c2, bq_aLi (bq_xi hn c1 c2)], fun _ => rfl⟩
theorem dX0_addToSeconds_0 : decode cX0_addToSeconds 0 = .ok (.iload_n 2, 1) := by decide +kernel
theorem dX0_addToSeconds_1 : decode cX0_addToSeconds 1 = .ok (.istore 6, 2) := by decide +kernel
theorem dX0_addToSeconds_3 : decode cX0_addToSeconds 3 = .ok (.iload 6, 2) := by decide +kernel
theorem dX0_addToSeconds_5 : decode cX0_addToSeconds 5 = .ok (.iload_n 3, 1) := by decide +kernel
theorem dX0_addToSeconds_6 : decode cX0_addToSeconds 6 = .ok (.if_icmp .gt 34, 3) := by decide +kernel
theorem dX0_addToSeconds_9 : decode cX0_addToSeconds 9 = .ok (.aload_n 0, 1) := by decide +kernel
theorem dX0_addToSeconds_10 : decode cX0_addToSeconds 10 = .ok (.getfield 9, 3) := by decide +kernel
theorem dX0_addToSeconds_13 : decode cX0_addToSeconds 13 = .ok (.iload_n 1, 1) := by decide +kernel
theorem dX0_addToSeconds_14 : decode cX0_addToSeconds 14 = .ok (.iload 6, 2) := by decide +kernel
theorem dX0_addToSeconds_16 : decode cX0_addToSeconds 16 = .ok (.iadd, 1) := by decide +kernel
theorem dX0_addToSeconds_17 : decode cX0_addToSeconds 17 = .ok (.aload_n 0, 1) := by decide +kernel
theorem dX0_addToSeconds_18 : decode cX0_addToSeconds 18 = .ok (.getfield 9, 3) := by decide +kernel
theorem dX0_addToSeconds_21 : decode cX0_addToSeconds 21 = .ok (.iload_n 1, 1) := by decide +kernel
theorem dX0_addToSeconds_22 : decode cX0_addToSeconds 22 = .ok (.iload 6, 2) := by decide +kernel
theorem dX0_addToSeconds_24 : decode cX0_addToSeconds 24 = .ok (.iadd, 1) := by decide +kernel
theorem dX0_addToSeconds_25 : decode cX0_addToSeconds 25 = .ok (.invokestatic 59, 3) := by decide +kernel
theorem dX0_addToSeconds_28 : decode cX0_addToSeconds 28 = .ok (.lload 4, 2) := by decide +kernel
theorem dX0_addToSeconds_30 : decode cX0_addToSeconds 30 = .ok (.ladd, 1) := by decide +kernel
theorem dX0_addToSeconds_31 : decode cX0_addToSeconds 31 = .ok (.invokestatic 55, 3) := by decide +kernel
theorem dX0_addToSeconds_34 : decode cX0_addToSeconds 34 = .ok (.iinc 6 1, 3) := by decide +kernel
theorem dX0_addToSeconds_37 : decode cX0_addToSeconds 37 = .ok (.goto (-34), 3) := by decide +kernel
theorem dX0_addToSeconds_40 : decode cX0_addToSeconds 40 = .ok (.return_, 1) := by decide +kernel
def fX0_addToSeconds_3 : Nat → Int32 → Int32 → Int64 → Int32 → zS → Option zS
  | 0, _, _, _, _, _ => none
  | f + 1, x1, x3, x4, x6, σ => if x3 < x6 then some σ else aL σ 28 244 (x1 + x6) fun v1 => wL σ 28 244 (x1 + x6) (v1 + x4) fun σ2 => fX0_addToSeconds_3 f x1 x3 x4 (x6 + 1) σ2
theorem kX0_addToSeconds_3 {sc : Nat × (Nat → Int32)} : ∀ (fuel : Nat) (x1 : Int32) (x3 : Int32) (x4 : Int64) (x6 : Int32) (σ : zS) (w : zS) (h : fX0_addToSeconds_3 fuel x1 x3 x4 x6 σ = some w), zR (zY0 sc) 2 0 0 mX0_addToSeconds 3 [(0, .ref 27), (1, .int x1), (3, .int x3), (4, .long x4), (6, .int x6)] [] (zE σ) (none, zE w) := by
  intro fuel
  induction fuel with
  | zero => intro x1 x3 x4 x6 σ w h; exact nomatch h
  | succ f ih =>
    intro x1 x3 x4 x6 σ w h
    rw [fX0_addToSeconds_3] at h
    refine kR.iload dX0_addToSeconds_3 4 rfl ?_
    refine kR.iload_n dX0_addToSeconds_5 2 rfl ?_
    refine kR.icmp_gt (tgt := 40) dX0_addToSeconds_6 (by decide) h (fun h => ?_) (fun h => ?_)
    · exact kR.vret dX0_addToSeconds_40 h
    · refine kR.aload_n dX0_addToSeconds_9 0 rfl ?_
      refine kR.getR (v := 28) dX0_addToSeconds_10 flX0_9 zcf0 zp27 (Or.inr ⟨_, rfl⟩) rfl ?_
      refine kR.iload_n dX0_addToSeconds_13 1 rfl ?_
      refine kR.iload dX0_addToSeconds_14 4 rfl ?_
      refine zR.iadd dX0_addToSeconds_16 ?_
      refine kR.aload_n dX0_addToSeconds_17 0 rfl ?_
      refine kR.getR (v := 28) dX0_addToSeconds_18 flX0_9 zcf0 zp27 (Or.inr ⟨_, rfl⟩) rfl ?_
      refine kR.iload_n dX0_addToSeconds_21 1 rfl ?_
      refine kR.iload dX0_addToSeconds_22 4 rfl ?_
      refine zR.iadd dX0_addToSeconds_24 ?_
      obtain ⟨v1, e0, h⟩ := aLv (Nat.le_of_ble_eq_true rfl) h
      refine kR.cSl [.ref 28, .int (x1 + x6)] dX0_addToSeconds_25 rfl (by decide) (Or.inr mwX0_59) rfl (Nat.le_of_ble_eq_true rfl) (lX10_valueAt_ 28 244 σ (fun _ => zp28) rfl (Nat.le_of_ble_eq_true rfl) (x1 + x6) _ e0) ?_
      refine kR.lload dX0_addToSeconds_28 3 rfl ?_
      refine zR.ladd dX0_addToSeconds_30 ?_
      obtain ⟨σ2, e0, h⟩ := wLv (Nat.le_of_ble_eq_true rfl) h
      refine kR.cSv [.ref 28, .int (x1 + x6), .long (v1 + x4)] dX0_addToSeconds_31 rfl (by decide) (Or.inr mwX0_55) rfl (Nat.le_of_ble_eq_true rfl) (lX10_setAt_ 28 244 (fun _ => zp28) rfl (Nat.le_of_ble_eq_true rfl) (x1 + x6) (v1 + x4) σ _ e0) ?_
      refine zR.iinc 4 (v := x6 + 1) (ls' := [(6, .int (x6 + 1)), (0, .ref 27), (1, .int x1), (3, .int x3), (4, .long x4)]) dX0_addToSeconds_34 rfl rfl (by decide) rfl ?_
      refine zR.goto (tgt := 3) dX0_addToSeconds_37 (by decide) ?_
      refine zR.sub [1, 2, 3, 4, 0] rfl ?_
      exact ih _ _ _ _ _ _ h
def fX0_addToSeconds (p1 : Int32) (p2 : Int32) (p3 : Int32) (p4 : Int64) (σ : zS) : Option zS := fX0_addToSeconds_3 zF p1 p3 p4 p2 σ
theorem eX0_addToSeconds {sc : Nat × (Nat → Int32)} (p1 : Int32) (p2 : Int32) (p3 : Int32) (p4 : Int64) (σ : zS) (w : zS) (h : fX0_addToSeconds p1 p2 p3 p4 σ = some w) : zR (zY0 sc) 2 0 0 mX0_addToSeconds 0 [(0, .ref 27), (1, .int p1), (2, .int p2), (3, .int p3), (4, .long p4)] [] (zE σ) (none, zE w) := by
  unfold fX0_addToSeconds at h
  refine kR.iload_n dX0_addToSeconds_0 2 rfl ?_
  refine zR.istore (i := 6) (ls' := [(6, .int p2), (0, .ref 27), (1, .int p1), (2, .int p2), (3, .int p3), (4, .long p4)]) dX0_addToSeconds_1 (by decide) rfl ?_
  refine zR.sub [1, 2, 4, 5, 0] rfl ?_
  exact kX0_addToSeconds_3 zF _ _ _ _ _ _ h
theorem lX0_addToSeconds {sc : Nat × (Nat → Int32)} (p1 : Int32) (p2 : Int32) (p3 : Int32) (p4 : Int64) (σ : zS) (w : zS) (h : fX0_addToSeconds p1 p2 p3 p4 σ = some w) : zC (zY0 sc) 2 0 0 mX0_addToSeconds [.ref 27, .int p1, .int p2, .int p3, .long p4] (zE σ) (none, zE w) := zC.of (by decide +kernel) (Nat.le_of_ble_eq_true rfl) rfl (eX0_addToSeconds p1 p2 p3 p4 σ w h)
theorem dX0_clearTotals_0 : decode cX0_clearTotals 0 = .ok (.iconst 0, 1) := by decide +kernel
theorem dX0_clearTotals_1 : decode cX0_clearTotals 1 = .ok (.istore_n 2, 1) := by decide +kernel
theorem dX0_clearTotals_2 : decode cX0_clearTotals 2 = .ok (.iload_n 2, 1) := by decide +kernel
theorem dX0_clearTotals_3 : decode cX0_clearTotals 3 = .ok (.bipush 61, 2) := by decide +kernel
theorem dX0_clearTotals_5 : decode cX0_clearTotals 5 = .ok (.if_icmp .ge 20, 3) := by decide +kernel
theorem dX0_clearTotals_8 : decode cX0_clearTotals 8 = .ok (.aload_n 0, 1) := by decide +kernel
theorem dX0_clearTotals_9 : decode cX0_clearTotals 9 = .ok (.getfield 9, 3) := by decide +kernel
theorem dX0_clearTotals_12 : decode cX0_clearTotals 12 = .ok (.iload_n 1, 1) := by decide +kernel
theorem dX0_clearTotals_13 : decode cX0_clearTotals 13 = .ok (.iload_n 2, 1) := by decide +kernel
theorem dX0_clearTotals_14 : decode cX0_clearTotals 14 = .ok (.iadd, 1) := by decide +kernel
theorem dX0_clearTotals_15 : decode cX0_clearTotals 15 = .ok (.lconst 0, 1) := by decide +kernel
theorem dX0_clearTotals_16 : decode cX0_clearTotals 16 = .ok (.invokestatic 55, 3) := by decide +kernel
theorem dX0_clearTotals_19 : decode cX0_clearTotals 19 = .ok (.iinc 2 1, 3) := by decide +kernel
theorem dX0_clearTotals_22 : decode cX0_clearTotals 22 = .ok (.goto (-20), 3) := by decide +kernel
theorem dX0_clearTotals_25 : decode cX0_clearTotals 25 = .ok (.return_, 1) := by decide +kernel
def fX0_clearTotals_2 : Nat → Int32 → Int32 → zS → Option zS
  | 0, _, _, _ => none
  | f + 1, x1, x2, σ => if 61 ≤ x2 then some σ else wL σ 28 244 (x1 + x2) 0 fun σ1 => fX0_clearTotals_2 f x1 (x2 + 1) σ1
theorem kX0_clearTotals_2 {sc : Nat × (Nat → Int32)} : ∀ (fuel : Nat) (x1 : Int32) (x2 : Int32) (σ : zS) (w : zS) (h : fX0_clearTotals_2 fuel x1 x2 σ = some w), zR (zY0 sc) 2 0 0 mX0_clearTotals 2 [(0, .ref 27), (1, .int x1), (2, .int x2)] [] (zE σ) (none, zE w) := by
  intro fuel
  induction fuel with
  | zero => intro x1 x2 σ w h; exact nomatch h
  | succ f ih =>
    intro x1 x2 σ w h
    rw [fX0_clearTotals_2] at h
    refine kR.iload_n dX0_clearTotals_2 2 rfl ?_
    refine zR.bipush (v := 61) dX0_clearTotals_3 (by decide) ?_
    refine kR.icmp_ge (tgt := 25) dX0_clearTotals_5 (by decide) h (fun h => ?_) (fun h => ?_)
    · exact kR.vret dX0_clearTotals_25 h
    · refine kR.aload_n dX0_clearTotals_8 0 rfl ?_
      refine kR.getR (v := 28) dX0_clearTotals_9 flX0_9 zcf0 zp27 (Or.inr ⟨_, rfl⟩) rfl ?_
      refine kR.iload_n dX0_clearTotals_12 1 rfl ?_
      refine kR.iload_n dX0_clearTotals_13 2 rfl ?_
      refine zR.iadd dX0_clearTotals_14 ?_
      refine zR.lconst (v := 0) dX0_clearTotals_15 (by decide) ?_
      obtain ⟨σ1, e0, h⟩ := wLv (Nat.le_of_ble_eq_true rfl) h
      refine kR.cSv [.ref 28, .int (x1 + x2), .long 0] dX0_clearTotals_16 rfl (by decide) (Or.inr mwX0_55) rfl (Nat.le_of_ble_eq_true rfl) (lX10_setAt_ 28 244 (fun _ => zp28) rfl (Nat.le_of_ble_eq_true rfl) (x1 + x2) 0 σ _ e0) ?_
      refine zR.iinc 2 (v := x2 + 1) (ls' := [(2, .int (x2 + 1)), (0, .ref 27), (1, .int x1)]) dX0_clearTotals_19 rfl rfl (by decide) rfl ?_
      refine zR.goto (tgt := 2) dX0_clearTotals_22 (by decide) ?_
      refine zR.sub [1, 2, 0] rfl ?_
      exact ih _ _ _ _ h
def fX0_clearTotals (p1 : Int32) (σ : zS) : Option zS := fX0_clearTotals_2 zF p1 0 σ
theorem eX0_clearTotals {sc : Nat × (Nat → Int32)} (p1 : Int32) (σ : zS) (w : zS) (h : fX0_clearTotals p1 σ = some w) : zR (zY0 sc) 2 0 0 mX0_clearTotals 0 [(0, .ref 27), (1, .int p1)] [] (zE σ) (none, zE w) := by
  unfold fX0_clearTotals at h
  refine zR.iconst (v := 0) dX0_clearTotals_0 (by decide) ?_
  refine zR.istore_n (i := 2) (ls' := [(2, .int 0), (0, .ref 27), (1, .int p1)]) dX0_clearTotals_1 rfl (by decide) rfl ?_
  refine zR.sub [1, 2, 0] rfl ?_
  exact kX0_clearTotals_2 zF _ _ _ _ h
theorem lX0_clearTotals {sc : Nat × (Nat → Int32)} (p1 : Int32) (σ : zS) (w : zS) (h : fX0_clearTotals p1 σ = some w) : zC (zY0 sc) 2 0 0 mX0_clearTotals [.ref 27, .int p1] (zE σ) (none, zE w) := zC.of (by decide +kernel) (Nat.le_of_ble_eq_true rfl) rfl (eX0_clearTotals p1 σ w h)
def fJ7_rangeCheck_23922 (p0 : Int32) (p1 : Int32) (p2 : Int32) : Option Unit := if p1 ≤ p2 then if 0 ≤ p1 then if p2 ≤ p0 then some () else none else none else none
def fJ7_fill_bad5a_10 (a0 : Nat) (n0 : Nat) : Nat → Int32 → Int64 → Int32 → zS → Option zS
  | 0, _, _, _, _ => none
  | f + 1, x2, x3, x5, σ => if x2 ≤ x5 then some σ else wL σ a0 n0 x5 x3 fun σ3 => fJ7_fill_bad5a_10 a0 n0 f x2 x3 (x5 + 1) σ3
def fJ7_fill_bad5a (a0 : Nat) (n0 : Nat) (p1 : Int32) (p2 : Int32) (p3 : Int64) (σ : zS) : Option zS := bnr (fJ7_rangeCheck_23922 (Int32.ofNat n0) p1 p2) fun v1 => fJ7_fill_bad5a_10 a0 n0 zF p2 p3 p1 σ
theorem clear_lp (r : Int32) (h0 : 0 ≤ r.toInt) (h1 : r.toInt + 61 ≤ 244) : ∀ (f : Nat) (k : Int32) (σ w : zS), 0 ≤ k.toInt → k.toInt ≤ 61 → fJ7_fill_bad5a_10 28 244 f (r + 61) 0 (r + k) σ = some w → fX0_clearTotals_2 f r k σ = some w := by
  intro f
  induction f with
  | zero => intro k σ w _ _ h; exact nomatch h
  | succ f ih =>
    intro k σ w hk hk1 h
    rw [fJ7_fill_bad5a_10] at h
    rw [fX0_clearTotals_2]
    have n61 : (61 : Int32).toInt = 61 := by decide
    have n1 : (1 : Int32).toInt = 1 := by decide
    have a1 : (r + 61).toInt = r.toInt + 61 := by rw [bq_add _ _ (by omega) (by omega), n61]
    have a2 : (r + k).toInt = r.toInt + k.toInt := bq_add _ _ (by omega) (by omega)
    by_cases hc : (61 : Int32) ≤ k
    · have hc' := Int32.le_iff_toInt_le.mp hc
      rw [if_pos (Int32.le_iff_toInt_le.mpr (by omega))] at h
      rw [if_pos hc]
      exact h
    · have hc' : ¬ (61 : Int32).toInt ≤ k.toInt := fun z => hc (Int32.le_iff_toInt_le.mpr z)
      rw [if_neg (fun z => hc (Int32.le_iff_toInt_le.mpr (by have := Int32.le_iff_toInt_le.mp z; omega)))] at h
      rw [if_neg hc]
      obtain ⟨b1, h⟩ := bq_wL h
      rw [bq_wLi b1]
      rw [Int32.add_assoc] at h
      have a3 : (k + 1).toInt = k.toInt + 1 := by rw [bq_add _ _ (by omega) (by omega), n1]
      exact ih _ _ _ (by omega) (by omega) h
theorem clear_fill {r : Int32} {σ w : zS} (h : fJ7_fill_bad5a 28 244 r (r + 61) 0 σ = some w) : fX0_clearTotals r σ = some w := by
  unfold fJ7_fill_bad5a at h
  obtain ⟨u, hu, h⟩ := bnr_some h
  unfold fJ7_rangeCheck_23922 at hu
  have n61 : (61 : Int32).toInt = 61 := by decide
  have n0 : (0 : Int32).toInt = 0 := by decide
  have n244 : (Int32.ofNat 244).toInt = 244 := by decide
  by_cases c1 : r ≤ r + 61
  · rw [if_pos c1] at hu
    by_cases c2 : 0 ≤ r
    · rw [if_pos c2] at hu
      by_cases c3 : r + 61 ≤ Int32.ofNat 244
      · rw [Int32.le_iff_toInt_le] at c1 c2 c3
        rw [n0] at c2
        rw [n244] at c3
        have hr := Int32.toInt_lt r
        have key : r.toInt + 61 ≤ 244 := by
          by_cases z : r.toInt + 61 < 2147483648
          · rw [bq_add _ _ (by omega) (by omega), n61] at c3
            exact c3
          · rw [Int32.toInt_add, n61, Int.bmod_def] at c1
            split at c1 <;> omega
        unfold fX0_clearTotals
        refine clear_lp r c2 key zF 0 σ w (by decide) (by decide) ?_
        rw [Int32.add_zero]
        exact h
      · rw [if_neg c3] at hu
        cases hu
    · rw [if_neg c2] at hu
      cases hu
  · rw [if_neg c1] at hu
    cases hu
theorem clear_fill0 {σ w : zS} (h : fJ7_fill_bad5a 28 244 0 61 0 σ = some w) : fX0_clearTotals 0 σ = some w := by
  refine clear_fill ?_
  have e : (0 : Int32) + 61 = 61 := by decide
  rw [e]
  exact h

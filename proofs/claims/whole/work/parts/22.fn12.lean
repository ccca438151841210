/-! MY OWN (by program): X11_finishes, X11_begin, X11_road, X11_fault, X11_status, X11_isTunnel, X11_isHolder, X11_lengthsOf, X11_lengthAt, X11_weightAt, X11_weights, X11_copies, X11_ring, X11_keeps, X11_undo, X11_part, X11_held, X11_floor, X11_two -/
theorem dX11_finishes_0 : decode cX11_finishes 0 = .ok (.aload_n 0, 1) := by decide +kernel
theorem dX11_finishes_1 : decode cX11_finishes 1 = .ok (.invokevirtual 271, 3) := by decide +kernel
theorem dX11_finishes_4 : decode cX11_finishes 4 = .ok (.aload_n 0, 1) := by decide +kernel
theorem dX11_finishes_5 : decode cX11_finishes 5 = .ok (.getfield 36, 3) := by decide +kernel
theorem dX11_finishes_8 : decode cX11_finishes 8 = .ok (.ifCond .le 4, 3) := by decide +kernel
theorem dX11_finishes_11 : decode cX11_finishes 11 = .ok (.return_, 1) := by decide +kernel
theorem dX11_finishes_12 : decode cX11_finishes 12 = .ok (.aload_n 0, 1) := by decide +kernel
theorem dX11_finishes_13 : decode cX11_finishes 13 = .ok (.getfield 26, 3) := by decide +kernel
theorem dX11_finishes_16 : decode cX11_finishes 16 = .ok (.istore_n 2, 1) := by decide +kernel
theorem dX11_finishes_17 : decode cX11_finishes 17 = .ok (.iload_n 2, 1) := by decide +kernel
theorem dX11_finishes_18 : decode cX11_finishes 18 = .ok (.aload_n 0, 1) := by decide +kernel
theorem dX11_finishes_19 : decode cX11_finishes 19 = .ok (.getfield 17, 3) := by decide +kernel
theorem dX11_finishes_22 : decode cX11_finishes 22 = .ok (.if_icmp .ge 31, 3) := by decide +kernel
theorem dX11_finishes_25 : decode cX11_finishes 25 = .ok (.aload_n 0, 1) := by decide +kernel
theorem dX11_finishes_26 : decode cX11_finishes 26 = .ok (.getfield 7, 3) := by decide +kernel
theorem dX11_finishes_29 : decode cX11_finishes 29 = .ok (.iload_n 2, 1) := by decide +kernel
theorem dX11_finishes_30 : decode cX11_finishes 30 = .ok (.iaload, 1) := by decide +kernel
theorem dX11_finishes_31 : decode cX11_finishes 31 = .ok (.bipush 32, 2) := by decide +kernel
theorem dX11_finishes_33 : decode cX11_finishes 33 = .ok (.if_icmp .eq 14, 3) := by decide +kernel
theorem dX11_finishes_36 : decode cX11_finishes 36 = .ok (.aload_n 0, 1) := by decide +kernel
theorem dX11_finishes_37 : decode cX11_finishes 37 = .ok (.getfield 7, 3) := by decide +kernel
theorem dX11_finishes_40 : decode cX11_finishes 40 = .ok (.iload_n 2, 1) := by decide +kernel
theorem dX11_finishes_41 : decode cX11_finishes 41 = .ok (.iaload, 1) := by decide +kernel
theorem dX11_finishes_42 : decode cX11_finishes 42 = .ok (.bipush 10, 2) := by decide +kernel
theorem dX11_finishes_44 : decode cX11_finishes 44 = .ok (.if_icmp .ne 9, 3) := by decide +kernel
theorem dX11_finishes_47 : decode cX11_finishes 47 = .ok (.iinc 2 1, 3) := by decide +kernel
theorem dX11_finishes_50 : decode cX11_finishes 50 = .ok (.goto (-33), 3) := by decide +kernel
theorem dX11_finishes_53 : decode cX11_finishes 53 = .ok (.aload_n 0, 1) := by decide +kernel
theorem dX11_finishes_54 : decode cX11_finishes 54 = .ok (.bipush 59, 2) := by decide +kernel
theorem dX11_finishes_56 : decode cX11_finishes 56 = .ok (.invokevirtual 274, 3) := by decide +kernel
theorem dX11_finishes_59 : decode cX11_finishes 59 = .ok (.ifCond .eq 24, 3) := by decide +kernel
theorem dX11_finishes_62 : decode cX11_finishes 62 = .ok (.iload_n 1, 1) := by decide +kernel
theorem dX11_finishes_63 : decode cX11_finishes 63 = .ok (.bipush 80, 2) := by decide +kernel
theorem dX11_finishes_65 : decode cX11_finishes 65 = .ok (.if_icmp .ne 18, 3) := by decide +kernel
theorem dX11_finishes_68 : decode cX11_finishes 68 = .ok (.iload_n 2, 1) := by decide +kernel
theorem dX11_finishes_69 : decode cX11_finishes 69 = .ok (.aload_n 0, 1) := by decide +kernel
theorem dX11_finishes_70 : decode cX11_finishes 70 = .ok (.getfield 17, 3) := by decide +kernel
theorem dX11_finishes_73 : decode cX11_finishes 73 = .ok (.if_icmp .ge 10, 3) := by decide +kernel
theorem dX11_finishes_76 : decode cX11_finishes 76 = .ok (.aload_n 0, 1) := by decide +kernel
theorem dX11_finishes_77 : decode cX11_finishes 77 = .ok (.bipush 6, 2) := by decide +kernel
theorem dX11_finishes_79 : decode cX11_finishes 79 = .ok (.iload_n 2, 1) := by decide +kernel
theorem dX11_finishes_80 : decode cX11_finishes 80 = .ok (.invokevirtual 260, 3) := by decide +kernel
theorem dX11_finishes_83 : decode cX11_finishes 83 = .ok (.aload_n 0, 1) := by decide +kernel
theorem dX11_finishes_84 : decode cX11_finishes 84 = .ok (.bipush 59, 2) := by decide +kernel
theorem dX11_finishes_86 : decode cX11_finishes 86 = .ok (.invokevirtual 426, 3) := by decide +kernel
theorem dX11_finishes_89 : decode cX11_finishes 89 = .ok (.return_, 1) := by decide +kernel
def fX11_finishes_83 (σ : zS) : Option zS := bnr (fX11_must 59 σ) fun σ3 => some σ3
theorem kX11_finishes_83 {sc : Nat × (Nat → Int32)} (σ : zS) (w : zS) (h : fX11_finishes_83 σ = some w) : zR (zY0 sc) 4 0 0 mX11_finishes 83 [(0, .ref 56)] [] (zE σ) (none, zE w) := by
  unfold fX11_finishes_83 at h
  refine kR.aload_n dX11_finishes_83 0 rfl ?_
  refine zR.bipush (v := 59) dX11_finishes_84 (by decide) ?_
  obtain ⟨σ3, e4, h⟩ := bnr_some h
  refine kR.cVv [.int 59] dX11_finishes_86 rfl (by decide) mwX11_426 zp56 (by decide) rfl rfl (Nat.le_of_ble_eq_true rfl) (lX11_must 59 σ _ e4) ?_
  exact kR.vret dX11_finishes_89 h
def fX11_finishes_53 (x1 : Int32) (x2 : Int32) (σ : zS) : Option zS := if (fX11_isSign σ 59) = 0 then fX11_finishes_83 σ else if x1 = 80 then if (iG σ 56 2) ≤ x2 then fX11_finishes_83 σ else bnr (fX11_blame 6 x2 σ) fun σ5 => fX11_finishes_83 σ5 else fX11_finishes_83 σ
theorem kX11_finishes_53 {sc : Nat × (Nat → Int32)} (x1 : Int32) (x2 : Int32) (σ : zS) (w : zS) (h : fX11_finishes_53 x1 x2 σ = some w) : zR (zY0 sc) 4 0 0 mX11_finishes 53 [(0, .ref 56), (1, .int x1), (2, .int x2)] [] (zE σ) (none, zE w) := by
  unfold fX11_finishes_53 at h
  refine kR.aload_n dX11_finishes_53 0 rfl ?_
  refine zR.bipush (v := 59) dX11_finishes_54 (by decide) ?_
  refine kR.cVi [.int 59] dX11_finishes_56 rfl (by decide) mwX11_274 zp56 (by decide) rfl rfl (Nat.le_of_ble_eq_true rfl) (lX11_isSign σ 59) ?_
  refine kR.if_eq (tgt := 83) dX11_finishes_59 (by decide) h (fun h => ?_) (fun h => ?_)
  · refine zR.sub [0] rfl ?_
    exact kX11_finishes_83 _ _ h
  · refine kR.iload_n dX11_finishes_62 1 rfl ?_
    refine zR.bipush (v := 80) dX11_finishes_63 (by decide) ?_
    refine kR.icmp_ne (tgt := 83) dX11_finishes_65 (by decide) h (fun h => ?_) (fun h => ?_)
    · refine zR.sub [0] rfl ?_
      exact kX11_finishes_83 _ _ h
    · refine kR.iload_n dX11_finishes_68 2 rfl ?_
      refine kR.aload_n dX11_finishes_69 0 rfl ?_
      refine kR.getI dX11_finishes_70 flX11_17 zcf11 zp56 (Or.inl rfl) ?_
      refine kR.icmp_ge (tgt := 83) dX11_finishes_73 (by decide) h (fun h => ?_) (fun h => ?_)
      · refine zR.sub [0] rfl ?_
        exact kX11_finishes_83 _ _ h
      · refine kR.aload_n dX11_finishes_76 0 rfl ?_
        refine zR.bipush (v := 6) dX11_finishes_77 (by decide) ?_
        refine kR.iload_n dX11_finishes_79 2 rfl ?_
        obtain ⟨σ5, e6, h⟩ := bnr_some h
        refine kR.cVv [.int 6, .int x2] dX11_finishes_80 rfl (by decide) mwX11_260 zp56 (by decide) rfl rfl (Nat.le_of_ble_eq_true rfl) (lX11_blame 6 x2 σ _ e6) ?_
        refine zR.sub [0] rfl ?_
        exact kX11_finishes_83 _ _ h
def fX11_finishes_47 (r17 : Int32 → Int32 → zS → Option zS) (x1 : Int32) (x2 : Int32) (σ : zS) : Option zS := r17 x1 (x2 + 1) σ
theorem kX11_finishes_47 {sc : Nat × (Nat → Int32)} (r17 : Int32 → Int32 → zS → Option zS) (hr17 : ∀ (x1 : Int32) (x2 : Int32) (σ : zS) (w : zS), r17 x1 x2 σ = some w → zR (zY0 sc) 4 0 0 mX11_finishes 17 [(0, .ref 56), (1, .int x1), (2, .int x2)] [] (zE σ) (none, zE w)) (x1 : Int32) (x2 : Int32) (σ : zS) (w : zS) (h : fX11_finishes_47 r17 x1 x2 σ = some w) : zR (zY0 sc) 4 0 0 mX11_finishes 47 [(0, .ref 56), (1, .int x1), (2, .int x2)] [] (zE σ) (none, zE w) := by
  unfold fX11_finishes_47 at h
  refine zR.iinc 2 (v := x2 + 1) (ls' := [(2, .int (x2 + 1)), (0, .ref 56), (1, .int x1)]) dX11_finishes_47 rfl rfl (by decide) rfl ?_
  refine zR.goto (tgt := 17) dX11_finishes_50 (by decide) ?_
  refine zR.sub [1, 2, 0] rfl ?_
  exact hr17 _ _ _ _ h
def fX11_finishes_17 : Nat → Int32 → Int32 → zS → Option zS
  | 0, _, _, _ => none
  | f + 1, x1, x2, σ => if (iG σ 56 2) ≤ x2 then fX11_finishes_53 x1 x2 σ else aI σ 57 1800 x2 fun v7 => if v7 = 32 then fX11_finishes_47 (fX11_finishes_17 f) x1 x2 σ else aI σ 57 1800 x2 fun v8 => if v8 = 10 then fX11_finishes_47 (fX11_finishes_17 f) x1 x2 σ else fX11_finishes_53 x1 x2 σ
theorem kX11_finishes_17 {sc : Nat × (Nat → Int32)} : ∀ (fuel : Nat) (x1 : Int32) (x2 : Int32) (σ : zS) (w : zS) (h : fX11_finishes_17 fuel x1 x2 σ = some w), zR (zY0 sc) 4 0 0 mX11_finishes 17 [(0, .ref 56), (1, .int x1), (2, .int x2)] [] (zE σ) (none, zE w) := by
  intro fuel
  induction fuel with
  | zero => intro x1 x2 σ w h; exact nomatch h
  | succ f ih =>
    intro x1 x2 σ w h
    rw [fX11_finishes_17] at h
    refine kR.iload_n dX11_finishes_17 2 rfl ?_
    refine kR.aload_n dX11_finishes_18 0 rfl ?_
    refine kR.getI dX11_finishes_19 flX11_17 zcf11 zp56 (Or.inl rfl) ?_
    refine kR.icmp_ge (tgt := 53) dX11_finishes_22 (by decide) h (fun h => ?_) (fun h => ?_)
    · exact kX11_finishes_53 _ _ _ _ h
    · refine kR.aload_n dX11_finishes_25 0 rfl ?_
      refine kR.getR (v := 57) dX11_finishes_26 flX11_7 zcf11 zp56 (Or.inr ⟨_, rfl⟩) rfl ?_
      refine kR.iload_n dX11_finishes_29 2 rfl ?_
      refine kR.iald dX11_finishes_30 zp57 rfl h (fun v7 h => ?_)
      refine zR.bipush (v := 32) dX11_finishes_31 (by decide) ?_
      refine kR.icmp_eq (tgt := 47) dX11_finishes_33 (by decide) h (fun h => ?_) (fun h => ?_)
      · exact kX11_finishes_47 (fX11_finishes_17 f) ih _ _ _ _ h
      · refine kR.aload_n dX11_finishes_36 0 rfl ?_
        refine kR.getR (v := 57) dX11_finishes_37 flX11_7 zcf11 zp56 (Or.inr ⟨_, rfl⟩) rfl ?_
        refine kR.iload_n dX11_finishes_40 2 rfl ?_
        refine kR.iald dX11_finishes_41 zp57 rfl h (fun v8 h => ?_)
        refine zR.bipush (v := 10) dX11_finishes_42 (by decide) ?_
        refine kR.icmp_ne (tgt := 53) dX11_finishes_44 (by decide) h (fun h => ?_) (fun h => ?_)
        · exact kX11_finishes_53 _ _ _ _ h
        · exact kX11_finishes_47 (fX11_finishes_17 f) ih _ _ _ _ h
def fX11_finishes (p1 : Int32) (σ : zS) : Option zS := bnr (fX11_lex σ) fun σ1 => if (iG σ1 56 8) ≤ 0 then fX11_finishes_17 zF p1 (iG σ1 56 5) σ1 else some σ1
theorem eX11_finishes {sc : Nat × (Nat → Int32)} (p1 : Int32) (σ : zS) (w : zS) (h : fX11_finishes p1 σ = some w) : zR (zY0 sc) 4 0 0 mX11_finishes 0 [(0, .ref 56), (1, .int p1)] [] (zE σ) (none, zE w) := by
  unfold fX11_finishes at h
  refine kR.aload_n dX11_finishes_0 0 rfl ?_
  obtain ⟨σ1, e2, h⟩ := bnr_some h
  refine kR.cVv [] dX11_finishes_1 rfl (by decide) mwX11_271 zp56 (by decide) rfl rfl (Nat.le_of_ble_eq_true rfl) (lX11_lex σ _ e2) ?_
  refine kR.aload_n dX11_finishes_4 0 rfl ?_
  refine kR.getI dX11_finishes_5 flX11_36 zcf11 zp56 (Or.inl rfl) ?_
  refine kR.if_le (tgt := 12) dX11_finishes_8 (by decide) h (fun h => ?_) (fun h => ?_)
  · refine kR.aload_n dX11_finishes_12 0 rfl ?_
    refine kR.getI dX11_finishes_13 flX11_26 zcf11 zp56 (Or.inl rfl) ?_
    refine zR.istore_n (i := 2) (ls' := [(2, .int (iG σ1 56 5)), (0, .ref 56), (1, .int p1)]) dX11_finishes_16 rfl (by decide) rfl ?_
    refine zR.sub [1, 2, 0] rfl ?_
    exact kX11_finishes_17 zF _ _ _ _ h
  · exact kR.vret dX11_finishes_11 h
theorem lX11_finishes {sc : Nat × (Nat → Int32)} (p1 : Int32) (σ : zS) (w : zS) (h : fX11_finishes p1 σ = some w) : zC (zY0 sc) 4 0 0 mX11_finishes [.ref 56, .int p1] (zE σ) (none, zE w) := zC.of (by decide +kernel) (Nat.le_of_ble_eq_true rfl) rfl (eX11_finishes p1 σ w h)
theorem dX11_begin_0 : decode cX11_begin 0 = .ok (.aload_n 0, 1) := by decide +kernel
theorem dX11_begin_1 : decode cX11_begin 1 = .ok (.getfield 156, 3) := by decide +kernel
theorem dX11_begin_4 : decode cX11_begin 4 = .ok (.iconst 0, 1) := by decide +kernel
theorem dX11_begin_5 : decode cX11_begin 5 = .ok (.iconst 0, 1) := by decide +kernel
theorem dX11_begin_6 : decode cX11_begin 6 = .ok (.iastore, 1) := by decide +kernel
theorem dX11_begin_7 : decode cX11_begin 7 = .ok (.aload_n 0, 1) := by decide +kernel
theorem dX11_begin_8 : decode cX11_begin 8 = .ok (.getfield 171, 3) := by decide +kernel
theorem dX11_begin_11 : decode cX11_begin 11 = .ok (.iconst 0, 1) := by decide +kernel
theorem dX11_begin_12 : decode cX11_begin 12 = .ok (.iconst 0, 1) := by decide +kernel
theorem dX11_begin_13 : decode cX11_begin 13 = .ok (.iastore, 1) := by decide +kernel
theorem dX11_begin_14 : decode cX11_begin 14 = .ok (.aload_n 0, 1) := by decide +kernel
theorem dX11_begin_15 : decode cX11_begin 15 = .ok (.iconst 0, 1) := by decide +kernel
theorem dX11_begin_16 : decode cX11_begin 16 = .ok (.putfield 189, 3) := by decide +kernel
theorem dX11_begin_19 : decode cX11_begin 19 = .ok (.aload_n 0, 1) := by decide +kernel
theorem dX11_begin_20 : decode cX11_begin 20 = .ok (.iconst 0, 1) := by decide +kernel
theorem dX11_begin_21 : decode cX11_begin 21 = .ok (.putfield 231, 3) := by decide +kernel
theorem dX11_begin_24 : decode cX11_begin 24 = .ok (.iconst 0, 1) := by decide +kernel
theorem dX11_begin_25 : decode cX11_begin 25 = .ok (.istore_n 1, 1) := by decide +kernel
theorem dX11_begin_26 : decode cX11_begin 26 = .ok (.iload_n 1, 1) := by decide +kernel
theorem dX11_begin_27 : decode cX11_begin 27 = .ok (.bipush 6, 2) := by decide +kernel
theorem dX11_begin_29 : decode cX11_begin 29 = .ok (.if_icmp .ge 56, 3) := by decide +kernel
theorem dX11_begin_32 : decode cX11_begin 32 = .ok (.aload_n 0, 1) := by decide +kernel
theorem dX11_begin_33 : decode cX11_begin 33 = .ok (.getfield 159, 3) := by decide +kernel
theorem dX11_begin_36 : decode cX11_begin 36 = .ok (.iload_n 1, 1) := by decide +kernel
theorem dX11_begin_37 : decode cX11_begin 37 = .ok (.aload_n 0, 1) := by decide +kernel
theorem dX11_begin_38 : decode cX11_begin 38 = .ok (.getfield 72, 3) := by decide +kernel
theorem dX11_begin_41 : decode cX11_begin 41 = .ok (.bipush 6, 2) := by decide +kernel
theorem dX11_begin_43 : decode cX11_begin 43 = .ok (.aload_n 0, 1) := by decide +kernel
theorem dX11_begin_44 : decode cX11_begin 44 = .ok (.getfield 51, 3) := by decide +kernel
theorem dX11_begin_47 : decode cX11_begin 47 = .ok (.imul, 1) := by decide +kernel
theorem dX11_begin_48 : decode cX11_begin 48 = .ok (.iload_n 1, 1) := by decide +kernel
theorem dX11_begin_49 : decode cX11_begin 49 = .ok (.iadd, 1) := by decide +kernel
theorem dX11_begin_50 : decode cX11_begin 50 = .ok (.iaload, 1) := by decide +kernel
theorem dX11_begin_51 : decode cX11_begin 51 = .ok (.iastore, 1) := by decide +kernel
theorem dX11_begin_52 : decode cX11_begin 52 = .ok (.aload_n 0, 1) := by decide +kernel
theorem dX11_begin_53 : decode cX11_begin 53 = .ok (.getfield 162, 3) := by decide +kernel
theorem dX11_begin_56 : decode cX11_begin 56 = .ok (.iload_n 1, 1) := by decide +kernel
theorem dX11_begin_57 : decode cX11_begin 57 = .ok (.aload_n 0, 1) := by decide +kernel
theorem dX11_begin_58 : decode cX11_begin 58 = .ok (.getfield 78, 3) := by decide +kernel
theorem dX11_begin_61 : decode cX11_begin 61 = .ok (.bipush 6, 2) := by decide +kernel
theorem dX11_begin_63 : decode cX11_begin 63 = .ok (.aload_n 0, 1) := by decide +kernel
theorem dX11_begin_64 : decode cX11_begin 64 = .ok (.getfield 51, 3) := by decide +kernel
theorem dX11_begin_67 : decode cX11_begin 67 = .ok (.imul, 1) := by decide +kernel
theorem dX11_begin_68 : decode cX11_begin 68 = .ok (.iload_n 1, 1) := by decide +kernel
theorem dX11_begin_69 : decode cX11_begin 69 = .ok (.iadd, 1) := by decide +kernel
theorem dX11_begin_70 : decode cX11_begin 70 = .ok (.iaload, 1) := by decide +kernel
theorem dX11_begin_71 : decode cX11_begin 71 = .ok (.iastore, 1) := by decide +kernel
theorem dX11_begin_72 : decode cX11_begin 72 = .ok (.aload_n 0, 1) := by decide +kernel
theorem dX11_begin_73 : decode cX11_begin 73 = .ok (.getfield 165, 3) := by decide +kernel
theorem dX11_begin_76 : decode cX11_begin 76 = .ok (.iload_n 1, 1) := by decide +kernel
theorem dX11_begin_77 : decode cX11_begin 77 = .ok (.iconst 0, 1) := by decide +kernel
theorem dX11_begin_78 : decode cX11_begin 78 = .ok (.iastore, 1) := by decide +kernel
theorem dX11_begin_79 : decode cX11_begin 79 = .ok (.iinc 1 1, 3) := by decide +kernel
theorem dX11_begin_82 : decode cX11_begin 82 = .ok (.goto (-56), 3) := by decide +kernel
theorem dX11_begin_85 : decode cX11_begin 85 = .ok (.iconst 0, 1) := by decide +kernel
theorem dX11_begin_86 : decode cX11_begin 86 = .ok (.istore_n 1, 1) := by decide +kernel
theorem dX11_begin_87 : decode cX11_begin 87 = .ok (.iload_n 1, 1) := by decide +kernel
theorem dX11_begin_88 : decode cX11_begin 88 = .ok (.bipush 36, 2) := by decide +kernel
theorem dX11_begin_90 : decode cX11_begin 90 = .ok (.if_icmp .ge 29, 3) := by decide +kernel
theorem dX11_begin_93 : decode cX11_begin 93 = .ok (.aload_n 0, 1) := by decide +kernel
theorem dX11_begin_94 : decode cX11_begin 94 = .ok (.getfield 168, 3) := by decide +kernel
theorem dX11_begin_97 : decode cX11_begin 97 = .ok (.iload_n 1, 1) := by decide +kernel
theorem dX11_begin_98 : decode cX11_begin 98 = .ok (.aload_n 0, 1) := by decide +kernel
theorem dX11_begin_99 : decode cX11_begin 99 = .ok (.getfield 81, 3) := by decide +kernel
theorem dX11_begin_102 : decode cX11_begin 102 = .ok (.bipush 36, 2) := by decide +kernel
theorem dX11_begin_104 : decode cX11_begin 104 = .ok (.aload_n 0, 1) := by decide +kernel
theorem dX11_begin_105 : decode cX11_begin 105 = .ok (.getfield 51, 3) := by decide +kernel
theorem dX11_begin_108 : decode cX11_begin 108 = .ok (.imul, 1) := by decide +kernel
theorem dX11_begin_109 : decode cX11_begin 109 = .ok (.iload_n 1, 1) := by decide +kernel
theorem dX11_begin_110 : decode cX11_begin 110 = .ok (.iadd, 1) := by decide +kernel
theorem dX11_begin_111 : decode cX11_begin 111 = .ok (.iaload, 1) := by decide +kernel
theorem dX11_begin_112 : decode cX11_begin 112 = .ok (.iastore, 1) := by decide +kernel
theorem dX11_begin_113 : decode cX11_begin 113 = .ok (.iinc 1 1, 3) := by decide +kernel
theorem dX11_begin_116 : decode cX11_begin 116 = .ok (.goto (-29), 3) := by decide +kernel
theorem dX11_begin_119 : decode cX11_begin 119 = .ok (.return_, 1) := by decide +kernel
def fX11_begin_87 : Nat → Int32 → zS → Option zS
  | 0, _, _ => none
  | f + 1, x1, σ => if 36 ≤ x1 then some σ else aI σ 67 72 ((36 * (iG σ 56 13)) + x1) fun v5 => wI σ 89 792 x1 v5 fun σ6 => fX11_begin_87 f (x1 + 1) σ6
theorem kX11_begin_87 {sc : Nat × (Nat → Int32)} : ∀ (fuel : Nat) (x1 : Int32) (σ : zS) (w : zS) (h : fX11_begin_87 fuel x1 σ = some w), zR (zY0 sc) 1 0 0 mX11_begin 87 [(0, .ref 56), (1, .int x1)] [] (zE σ) (none, zE w) := by
  intro fuel
  induction fuel with
  | zero => intro x1 σ w h; exact nomatch h
  | succ f ih =>
    intro x1 σ w h
    rw [fX11_begin_87] at h
    refine kR.iload_n dX11_begin_87 1 rfl ?_
    refine zR.bipush (v := 36) dX11_begin_88 (by decide) ?_
    refine kR.icmp_ge (tgt := 119) dX11_begin_90 (by decide) h (fun h => ?_) (fun h => ?_)
    · exact kR.vret dX11_begin_119 h
    · refine kR.aload_n dX11_begin_93 0 rfl ?_
      refine kR.getR (v := 89) dX11_begin_94 flX11_168 zcf11 zp56 (Or.inr ⟨_, rfl⟩) rfl ?_
      refine kR.iload_n dX11_begin_97 1 rfl ?_
      refine kR.aload_n dX11_begin_98 0 rfl ?_
      refine kR.getR (v := 67) dX11_begin_99 flX11_81 zcf11 zp56 (Or.inr ⟨_, rfl⟩) rfl ?_
      refine zR.bipush (v := 36) dX11_begin_102 (by decide) ?_
      refine kR.aload_n dX11_begin_104 0 rfl ?_
      refine kR.getI dX11_begin_105 flX11_51 zcf11 zp56 (Or.inl rfl) ?_
      refine zR.imul dX11_begin_108 ?_
      refine kR.iload_n dX11_begin_109 1 rfl ?_
      refine zR.iadd dX11_begin_110 ?_
      refine kR.iald dX11_begin_111 zp67 rfl h (fun v5 h => ?_)
      refine kR.iast dX11_begin_112 zp89 rfl h (fun σ6 h => ?_)
      refine zR.iinc 1 (v := x1 + 1) (ls' := [(1, .int (x1 + 1)), (0, .ref 56)]) dX11_begin_113 rfl rfl (by decide) rfl ?_
      refine zR.goto (tgt := 87) dX11_begin_116 (by decide) ?_
      refine zR.sub [1, 0] rfl ?_
      exact ih _ _ _ h
def fX11_begin_26 : Nat → Int32 → zS → Option zS
  | 0, _, _ => none
  | f + 1, x1, σ => if 6 ≤ x1 then fX11_begin_87 zF 0 σ else aI σ 64 12 ((6 * (iG σ 56 13)) + x1) fun v7 => wI σ 86 132 x1 v7 fun σ8 => aI σ8 66 12 ((6 * (iG σ8 56 13)) + x1) fun v9 => wI σ8 87 132 x1 v9 fun σ10 => wI σ10 88 132 x1 0 fun σ11 => fX11_begin_26 f (x1 + 1) σ11
theorem kX11_begin_26 {sc : Nat × (Nat → Int32)} : ∀ (fuel : Nat) (x1 : Int32) (σ : zS) (w : zS) (h : fX11_begin_26 fuel x1 σ = some w), zR (zY0 sc) 1 0 0 mX11_begin 26 [(0, .ref 56), (1, .int x1)] [] (zE σ) (none, zE w) := by
  intro fuel
  induction fuel with
  | zero => intro x1 σ w h; exact nomatch h
  | succ f ih =>
    intro x1 σ w h
    rw [fX11_begin_26] at h
    refine kR.iload_n dX11_begin_26 1 rfl ?_
    refine zR.bipush (v := 6) dX11_begin_27 (by decide) ?_
    refine kR.icmp_ge (tgt := 85) dX11_begin_29 (by decide) h (fun h => ?_) (fun h => ?_)
    · refine zR.iconst (v := 0) dX11_begin_85 (by decide) ?_
      refine zR.istore_n (i := 1) (ls' := [(1, .int 0), (0, .ref 56)]) dX11_begin_86 rfl (by decide) rfl ?_
      refine zR.sub [1, 0] rfl ?_
      exact kX11_begin_87 zF _ _ _ h
    · refine kR.aload_n dX11_begin_32 0 rfl ?_
      refine kR.getR (v := 86) dX11_begin_33 flX11_159 zcf11 zp56 (Or.inr ⟨_, rfl⟩) rfl ?_
      refine kR.iload_n dX11_begin_36 1 rfl ?_
      refine kR.aload_n dX11_begin_37 0 rfl ?_
      refine kR.getR (v := 64) dX11_begin_38 flX11_72 zcf11 zp56 (Or.inr ⟨_, rfl⟩) rfl ?_
      refine zR.bipush (v := 6) dX11_begin_41 (by decide) ?_
      refine kR.aload_n dX11_begin_43 0 rfl ?_
      refine kR.getI dX11_begin_44 flX11_51 zcf11 zp56 (Or.inl rfl) ?_
      refine zR.imul dX11_begin_47 ?_
      refine kR.iload_n dX11_begin_48 1 rfl ?_
      refine zR.iadd dX11_begin_49 ?_
      refine kR.iald dX11_begin_50 zp64 rfl h (fun v7 h => ?_)
      refine kR.iast dX11_begin_51 zp86 rfl h (fun σ8 h => ?_)
      refine kR.aload_n dX11_begin_52 0 rfl ?_
      refine kR.getR (v := 87) dX11_begin_53 flX11_162 zcf11 zp56 (Or.inr ⟨_, rfl⟩) rfl ?_
      refine kR.iload_n dX11_begin_56 1 rfl ?_
      refine kR.aload_n dX11_begin_57 0 rfl ?_
      refine kR.getR (v := 66) dX11_begin_58 flX11_78 zcf11 zp56 (Or.inr ⟨_, rfl⟩) rfl ?_
      refine zR.bipush (v := 6) dX11_begin_61 (by decide) ?_
      refine kR.aload_n dX11_begin_63 0 rfl ?_
      refine kR.getI dX11_begin_64 flX11_51 zcf11 zp56 (Or.inl rfl) ?_
      refine zR.imul dX11_begin_67 ?_
      refine kR.iload_n dX11_begin_68 1 rfl ?_
      refine zR.iadd dX11_begin_69 ?_
      refine kR.iald dX11_begin_70 zp66 rfl h (fun v9 h => ?_)
      refine kR.iast dX11_begin_71 zp87 rfl h (fun σ10 h => ?_)
      refine kR.aload_n dX11_begin_72 0 rfl ?_
      refine kR.getR (v := 88) dX11_begin_73 flX11_165 zcf11 zp56 (Or.inr ⟨_, rfl⟩) rfl ?_
      refine kR.iload_n dX11_begin_76 1 rfl ?_
      refine zR.iconst (v := 0) dX11_begin_77 (by decide) ?_
      refine kR.iast dX11_begin_78 zp88 rfl h (fun σ11 h => ?_)
      refine zR.iinc 1 (v := x1 + 1) (ls' := [(1, .int (x1 + 1)), (0, .ref 56)]) dX11_begin_79 rfl rfl (by decide) rfl ?_
      refine zR.goto (tgt := 26) dX11_begin_82 (by decide) ?_
      refine zR.sub [1, 0] rfl ?_
      exact ih _ _ _ h
def fX11_begin (σ : zS) : Option zS := wI σ 85 22 0 0 fun σ1 => wI σ1 90 22 0 0 fun σ2 => bnd (iS σ2 56 58 0) fun σ3 => bnd (iS σ3 56 72 0) fun σ4 => fX11_begin_26 zF 0 σ4
theorem eX11_begin {sc : Nat × (Nat → Int32)} (σ : zS) (w : zS) (h : fX11_begin σ = some w) : zR (zY0 sc) 1 0 0 mX11_begin 0 [(0, .ref 56)] [] (zE σ) (none, zE w) := by
  unfold fX11_begin at h
  refine kR.aload_n dX11_begin_0 0 rfl ?_
  refine kR.getR (v := 85) dX11_begin_1 flX11_156 zcf11 zp56 (Or.inr ⟨_, rfl⟩) rfl ?_
  refine zR.iconst (v := 0) dX11_begin_4 (by decide) ?_
  refine zR.iconst (v := 0) dX11_begin_5 (by decide) ?_
  refine kR.iast dX11_begin_6 zp85 rfl h (fun σ1 h => ?_)
  refine kR.aload_n dX11_begin_7 0 rfl ?_
  refine kR.getR (v := 90) dX11_begin_8 flX11_171 zcf11 zp56 (Or.inr ⟨_, rfl⟩) rfl ?_
  refine zR.iconst (v := 0) dX11_begin_11 (by decide) ?_
  refine zR.iconst (v := 0) dX11_begin_12 (by decide) ?_
  refine kR.iast dX11_begin_13 zp90 rfl h (fun σ2 h => ?_)
  refine kR.aload_n dX11_begin_14 0 rfl ?_
  refine zR.iconst (v := 0) dX11_begin_15 (by decide) ?_
  refine kR.putI dX11_begin_16 fpX11_189 zcf11 zp56 rfl h (fun σ3 h => ?_)
  refine kR.aload_n dX11_begin_19 0 rfl ?_
  refine zR.iconst (v := 0) dX11_begin_20 (by decide) ?_
  refine kR.putI dX11_begin_21 fpX11_231 zcf11 zp56 rfl h (fun σ4 h => ?_)
  refine zR.iconst (v := 0) dX11_begin_24 (by decide) ?_
  refine zR.istore_n (i := 1) (ls' := [(1, .int 0), (0, .ref 56)]) dX11_begin_25 rfl (by decide) rfl ?_
  refine zR.sub [1, 0] rfl ?_
  exact kX11_begin_26 zF _ _ _ h
theorem lX11_begin {sc : Nat × (Nat → Int32)} (σ : zS) (w : zS) (h : fX11_begin σ = some w) : zC (zY0 sc) 1 0 0 mX11_begin [.ref 56] (zE σ) (none, zE w) := zC.of (by decide +kernel) (Nat.le_of_ble_eq_true rfl) rfl (eX11_begin σ w h)
theorem dX11_road_0 : decode cX11_road 0 = .ok (.aload_n 0, 1) := by decide +kernel
theorem dX11_road_1 : decode cX11_road 1 = .ok (.aload_n 0, 1) := by decide +kernel
theorem dX11_road_2 : decode cX11_road 2 = .ok (.getfield 13, 3) := by decide +kernel
theorem dX11_road_5 : decode cX11_road 5 = .ok (.putfield 17, 3) := by decide +kernel
theorem dX11_road_8 : decode cX11_road 8 = .ok (.aload_n 0, 1) := by decide +kernel
theorem dX11_road_9 : decode cX11_road 9 = .ok (.iconst 0, 1) := by decide +kernel
theorem dX11_road_10 : decode cX11_road 10 = .ok (.putfield 13, 3) := by decide +kernel
theorem dX11_road_13 : decode cX11_road 13 = .ok (.aload_n 0, 1) := by decide +kernel
theorem dX11_road_14 : decode cX11_road 14 = .ok (.iconst 0, 1) := by decide +kernel
theorem dX11_road_15 : decode cX11_road 15 = .ok (.putfield 26, 3) := by decide +kernel
theorem dX11_road_18 : decode cX11_road 18 = .ok (.aload_n 0, 1) := by decide +kernel
theorem dX11_road_19 : decode cX11_road 19 = .ok (.iconst 0, 1) := by decide +kernel
theorem dX11_road_20 : decode cX11_road 20 = .ok (.putfield 36, 3) := by decide +kernel
theorem dX11_road_23 : decode cX11_road 23 = .ok (.aload_n 0, 1) := by decide +kernel
theorem dX11_road_24 : decode cX11_road 24 = .ok (.iconst (-1), 1) := by decide +kernel
theorem dX11_road_25 : decode cX11_road 25 = .ok (.putfield 39, 3) := by decide +kernel
theorem dX11_road_28 : decode cX11_road 28 = .ok (.aload_n 0, 1) := by decide +kernel
theorem dX11_road_29 : decode cX11_road 29 = .ok (.iconst 1, 1) := by decide +kernel
theorem dX11_road_30 : decode cX11_road 30 = .ok (.aload_n 0, 1) := by decide +kernel
theorem dX11_road_31 : decode cX11_road 31 = .ok (.getfield 51, 3) := by decide +kernel
theorem dX11_road_34 : decode cX11_road 34 = .ok (.isub, 1) := by decide +kernel
theorem dX11_road_35 : decode cX11_road 35 = .ok (.putfield 118, 3) := by decide +kernel
theorem dX11_road_38 : decode cX11_road 38 = .ok (.aload_n 0, 1) := by decide +kernel
theorem dX11_road_39 : decode cX11_road 39 = .ok (.getfield 54, 3) := by decide +kernel
theorem dX11_road_42 : decode cX11_road 42 = .ok (.aload_n 0, 1) := by decide +kernel
theorem dX11_road_43 : decode cX11_road 43 = .ok (.getfield 118, 3) := by decide +kernel
theorem dX11_road_46 : decode cX11_road 46 = .ok (.iconst 0, 1) := by decide +kernel
theorem dX11_road_47 : decode cX11_road 47 = .ok (.iastore, 1) := by decide +kernel
theorem dX11_road_48 : decode cX11_road 48 = .ok (.aload_n 0, 1) := by decide +kernel
theorem dX11_road_49 : decode cX11_road 49 = .ok (.getfield 69, 3) := by decide +kernel
theorem dX11_road_52 : decode cX11_road 52 = .ok (.aload_n 0, 1) := by decide +kernel
theorem dX11_road_53 : decode cX11_road 53 = .ok (.getfield 118, 3) := by decide +kernel
theorem dX11_road_56 : decode cX11_road 56 = .ok (.iconst 0, 1) := by decide +kernel
theorem dX11_road_57 : decode cX11_road 57 = .ok (.iastore, 1) := by decide +kernel
theorem dX11_road_58 : decode cX11_road 58 = .ok (.aload_n 0, 1) := by decide +kernel
theorem dX11_road_59 : decode cX11_road 59 = .ok (.getfield 84, 3) := by decide +kernel
theorem dX11_road_62 : decode cX11_road 62 = .ok (.aload_n 0, 1) := by decide +kernel
theorem dX11_road_63 : decode cX11_road 63 = .ok (.getfield 118, 3) := by decide +kernel
theorem dX11_road_66 : decode cX11_road 66 = .ok (.iconst (-1), 1) := by decide +kernel
theorem dX11_road_67 : decode cX11_road 67 = .ok (.iastore, 1) := by decide +kernel
theorem dX11_road_68 : decode cX11_road 68 = .ok (.aload_n 0, 1) := by decide +kernel
theorem dX11_road_69 : decode cX11_road 69 = .ok (.getfield 90, 3) := by decide +kernel
theorem dX11_road_72 : decode cX11_road 72 = .ok (.aload_n 0, 1) := by decide +kernel
theorem dX11_road_73 : decode cX11_road 73 = .ok (.getfield 118, 3) := by decide +kernel
theorem dX11_road_76 : decode cX11_road 76 = .ok (.iconst (-1), 1) := by decide +kernel
theorem dX11_road_77 : decode cX11_road 77 = .ok (.iastore, 1) := by decide +kernel
theorem dX11_road_78 : decode cX11_road 78 = .ok (.aload_n 0, 1) := by decide +kernel
theorem dX11_road_79 : decode cX11_road 79 = .ok (.getfield 96, 3) := by decide +kernel
theorem dX11_road_82 : decode cX11_road 82 = .ok (.aload_n 0, 1) := by decide +kernel
theorem dX11_road_83 : decode cX11_road 83 = .ok (.getfield 118, 3) := by decide +kernel
theorem dX11_road_86 : decode cX11_road 86 = .ok (.iconst 0, 1) := by decide +kernel
theorem dX11_road_87 : decode cX11_road 87 = .ok (.iastore, 1) := by decide +kernel
theorem dX11_road_88 : decode cX11_road 88 = .ok (.aload_n 0, 1) := by decide +kernel
theorem dX11_road_89 : decode cX11_road 89 = .ok (.getfield 99, 3) := by decide +kernel
theorem dX11_road_92 : decode cX11_road 92 = .ok (.aload_n 0, 1) := by decide +kernel
theorem dX11_road_93 : decode cX11_road 93 = .ok (.getfield 118, 3) := by decide +kernel
theorem dX11_road_96 : decode cX11_road 96 = .ok (.iconst 0, 1) := by decide +kernel
theorem dX11_road_97 : decode cX11_road 97 = .ok (.iastore, 1) := by decide +kernel
theorem dX11_road_98 : decode cX11_road 98 = .ok (.aload_n 0, 1) := by decide +kernel
theorem dX11_road_99 : decode cX11_road 99 = .ok (.iconst 0, 1) := by decide +kernel
theorem dX11_road_100 : decode cX11_road 100 = .ok (.putfield 115, 3) := by decide +kernel
theorem dX11_road_103 : decode cX11_road 103 = .ok (.iconst 0, 1) := by decide +kernel
theorem dX11_road_104 : decode cX11_road 104 = .ok (.istore_n 1, 1) := by decide +kernel
theorem dX11_road_105 : decode cX11_road 105 = .ok (.aload_n 0, 1) := by decide +kernel
theorem dX11_road_106 : decode cX11_road 106 = .ok (.invokevirtual 277, 3) := by decide +kernel
theorem dX11_road_109 : decode cX11_road 109 = .ok (.aload_n 0, 1) := by decide +kernel
theorem dX11_road_110 : decode cX11_road 110 = .ok (.getfield 36, 3) := by decide +kernel
theorem dX11_road_113 : decode cX11_road 113 = .ok (.ifCond .ne 25, 3) := by decide +kernel
theorem dX11_road_116 : decode cX11_road 116 = .ok (.aload_n 0, 1) := by decide +kernel
theorem dX11_road_117 : decode cX11_road 117 = .ok (.getfield 20, 3) := by decide +kernel
theorem dX11_road_120 : decode cX11_road 120 = .ok (.ifCond .eq 18, 3) := by decide +kernel
theorem dX11_road_123 : decode cX11_road 123 = .ok (.aload_n 0, 1) := by decide +kernel
theorem dX11_road_124 : decode cX11_road 124 = .ok (.invokevirtual 428, 3) := by decide +kernel
theorem dX11_road_127 : decode cX11_road 127 = .ok (.iinc 1 1, 3) := by decide +kernel
theorem dX11_road_130 : decode cX11_road 130 = .ok (.aload_n 0, 1) := by decide +kernel
theorem dX11_road_131 : decode cX11_road 131 = .ok (.iload_n 1, 1) := by decide +kernel
theorem dX11_road_132 : decode cX11_road 132 = .ok (.invokevirtual 431, 3) := by decide +kernel
theorem dX11_road_135 : decode cX11_road 135 = .ok (.goto (-26), 3) := by decide +kernel
theorem dX11_road_138 : decode cX11_road 138 = .ok (.aload_n 0, 1) := by decide +kernel
theorem dX11_road_139 : decode cX11_road 139 = .ok (.aload_n 0, 1) := by decide +kernel
theorem dX11_road_140 : decode cX11_road 140 = .ok (.getfield 36, 3) := by decide +kernel
theorem dX11_road_143 : decode cX11_road 143 = .ok (.putfield 42, 3) := by decide +kernel
theorem dX11_road_146 : decode cX11_road 146 = .ok (.aload_n 0, 1) := by decide +kernel
theorem dX11_road_147 : decode cX11_road 147 = .ok (.aload_n 0, 1) := by decide +kernel
theorem dX11_road_148 : decode cX11_road 148 = .ok (.getfield 39, 3) := by decide +kernel
theorem dX11_road_151 : decode cX11_road 151 = .ok (.putfield 45, 3) := by decide +kernel
theorem dX11_road_154 : decode cX11_road 154 = .ok (.aload_n 0, 1) := by decide +kernel
theorem dX11_road_155 : decode cX11_road 155 = .ok (.getfield 36, 3) := by decide +kernel
theorem dX11_road_158 : decode cX11_road 158 = .ok (.ifCond .le 9, 3) := by decide +kernel
theorem dX11_road_161 : decode cX11_road 161 = .ok (.aload_n 0, 1) := by decide +kernel
theorem dX11_road_162 : decode cX11_road 162 = .ok (.iconst 1, 1) := by decide +kernel
theorem dX11_road_163 : decode cX11_road 163 = .ok (.invokevirtual 252, 3) := by decide +kernel
theorem dX11_road_166 : decode cX11_road 166 = .ok (.ireturn, 1) := by decide +kernel
theorem dX11_road_167 : decode cX11_road 167 = .ok (.aload_n 0, 1) := by decide +kernel
theorem dX11_road_168 : decode cX11_road 168 = .ok (.aload_n 0, 1) := by decide +kernel
theorem dX11_road_169 : decode cX11_road 169 = .ok (.getfield 118, 3) := by decide +kernel
theorem dX11_road_172 : decode cX11_road 172 = .ok (.putfield 51, 3) := by decide +kernel
theorem dX11_road_175 : decode cX11_road 175 = .ok (.aload_n 0, 1) := by decide +kernel
theorem dX11_road_176 : decode cX11_road 176 = .ok (.invokevirtual 434, 3) := by decide +kernel
theorem dX11_road_179 : decode cX11_road 179 = .ok (.iload_n 1, 1) := by decide +kernel
theorem dX11_road_180 : decode cX11_road 180 = .ok (.ireturn, 1) := by decide +kernel
def fX11_road_138 (x1 : Int32) (σ : zS) : Option (Int32 × zS) := bnd (iS σ 56 10 (iG σ 56 8)) fun σ16 => bnd (iS σ16 56 11 (iG σ16 56 9)) fun σ17 => if (iG σ17 56 8) ≤ 0 then bnd (iS σ17 56 13 (iG σ17 56 35)) fun σ18 => bnr (fX11_begin σ18) fun σ19 => some (x1, σ19) else bnc (fX11_refuses 1 σ17) fun v23 σ21 => some (v23, σ21)
theorem kX11_road_138 {sc : Nat × (Nat → Int32)} (x1 : Int32) (σ : zS) (w : Int32 × zS) (h : fX11_road_138 x1 σ = some w) : zR (zY0 sc) 8 0 0 mX11_road 138 [(0, .ref 56), (1, .int x1)] [] (zE σ) (some (.int w.1), zE w.2) := by
  unfold fX11_road_138 at h
  refine kR.aload_n dX11_road_138 0 rfl ?_
  refine kR.aload_n dX11_road_139 0 rfl ?_
  refine kR.getI dX11_road_140 flX11_36 zcf11 zp56 (Or.inl rfl) ?_
  refine kR.putI dX11_road_143 fpX11_42 zcf11 zp56 rfl h (fun σ16 h => ?_)
  refine kR.aload_n dX11_road_146 0 rfl ?_
  refine kR.aload_n dX11_road_147 0 rfl ?_
  refine kR.getI dX11_road_148 flX11_39 zcf11 zp56 (Or.inl rfl) ?_
  refine kR.putI dX11_road_151 fpX11_45 zcf11 zp56 rfl h (fun σ17 h => ?_)
  refine kR.aload_n dX11_road_154 0 rfl ?_
  refine kR.getI dX11_road_155 flX11_36 zcf11 zp56 (Or.inl rfl) ?_
  refine kR.if_le (tgt := 167) dX11_road_158 (by decide) h (fun h => ?_) (fun h => ?_)
  · refine kR.aload_n dX11_road_167 0 rfl ?_
    refine kR.aload_n dX11_road_168 0 rfl ?_
    refine kR.getI dX11_road_169 flX11_118 zcf11 zp56 (Or.inl rfl) ?_
    refine kR.putI dX11_road_172 fpX11_51 zcf11 zp56 rfl h (fun σ18 h => ?_)
    refine kR.aload_n dX11_road_175 0 rfl ?_
    obtain ⟨σ19, e20, h⟩ := bnr_some h
    refine kR.cVv [] dX11_road_176 rfl (by decide) mwX11_434 zp56 (by decide) rfl rfl (Nat.le_of_ble_eq_true rfl) (lX11_begin σ18 _ e20) ?_
    refine kR.iload_n dX11_road_179 1 rfl ?_
    exact kR.iretW dX11_road_180 (nzI rfl _) h
  · refine kR.aload_n dX11_road_161 0 rfl ?_
    refine zR.iconst (v := 1) dX11_road_162 (by decide) ?_
    obtain ⟨v23, σ21, e22, h⟩ := bnc_some h
    refine kR.cVi [.int 1] dX11_road_163 rfl (by decide) mwX11_252 zp56 (by decide) rfl rfl (Nat.le_of_ble_eq_true rfl) (lX11_refuses 1 σ17 _ e22) ?_
    exact kR.iretW dX11_road_166 (nzI rfl _) h
def fX11_road_109 : Nat → Int32 → zS → Option (Int32 × zS)
  | 0, _, _ => none
  | f + 1, x1, σ => if (iG σ 56 8) = 0 then if (iG σ 56 3) = 0 then fX11_road_138 x1 σ else bnr (fX11_statement σ) fun σ24 => bnr (fX11_finishes (x1 + 1) σ24) fun σ26 => fX11_road_109 f (x1 + 1) σ26 else fX11_road_138 x1 σ
theorem kX11_road_109 {sc : Nat × (Nat → Int32)} : ∀ (fuel : Nat) (x1 : Int32) (σ : zS) (w : Int32 × zS) (h : fX11_road_109 fuel x1 σ = some w), zR (zY0 sc) 8 0 0 mX11_road 109 [(0, .ref 56), (1, .int x1)] [] (zE σ) (some (.int w.1), zE w.2) := by
  intro fuel
  induction fuel with
  | zero => intro x1 σ w h; exact nomatch h
  | succ f ih =>
    intro x1 σ w h
    rw [fX11_road_109] at h
    refine kR.aload_n dX11_road_109 0 rfl ?_
    refine kR.getI dX11_road_110 flX11_36 zcf11 zp56 (Or.inl rfl) ?_
    refine kR.if_ne (tgt := 138) dX11_road_113 (by decide) h (fun h => ?_) (fun h => ?_)
    · exact kX11_road_138 _ _ _ h
    · refine kR.aload_n dX11_road_116 0 rfl ?_
      refine kR.getI dX11_road_117 flX11_20 zcf11 zp56 (Or.inl rfl) ?_
      refine kR.if_eq (tgt := 138) dX11_road_120 (by decide) h (fun h => ?_) (fun h => ?_)
      · exact kX11_road_138 _ _ _ h
      · refine kR.aload_n dX11_road_123 0 rfl ?_
        obtain ⟨σ24, e25, h⟩ := bnr_some h
        refine kR.cVv [] dX11_road_124 rfl (by decide) mwX11_428 zp56 (by decide) rfl rfl (Nat.le_of_ble_eq_true rfl) (lX11_statement σ _ e25) ?_
        refine zR.iinc 1 (v := x1 + 1) (ls' := [(1, .int (x1 + 1)), (0, .ref 56)]) dX11_road_127 rfl rfl (by decide) rfl ?_
        refine kR.aload_n dX11_road_130 1 rfl ?_
        refine kR.iload_n dX11_road_131 0 rfl ?_
        obtain ⟨σ26, e27, h⟩ := bnr_some h
        refine kR.cVv [.int (x1 + 1)] dX11_road_132 rfl (by decide) mwX11_431 zp56 (by decide) rfl rfl (Nat.le_of_ble_eq_true rfl) (lX11_finishes (x1 + 1) σ24 _ e27) ?_
        refine zR.goto (tgt := 109) dX11_road_135 (by decide) ?_
        refine zR.sub [1, 0] rfl ?_
        exact ih _ _ _ h
def fX11_road (σ : zS) : Option (Int32 × zS) := bnd (iS σ 56 2 (iG σ 56 1)) fun σ1 => bnd (iS σ1 56 1 0) fun σ2 => bnd (iS σ2 56 5 0) fun σ3 => bnd (iS σ3 56 8 0) fun σ4 => bnd (iS σ4 56 9 ((-1))) fun σ5 => bnd (iS σ5 56 35 (1 - (iG σ5 56 13))) fun σ6 => wI σ6 58 2 (iG σ6 56 35) 0 fun σ7 => wI σ7 63 2 (iG σ7 56 35) 0 fun σ8 => wI σ8 68 2 (iG σ8 56 35) ((-1)) fun σ9 => wI σ9 70 2 (iG σ9 56 35) ((-1)) fun σ10 => wI σ10 72 2 (iG σ10 56 35) 0 fun σ11 => wI σ11 73 2 (iG σ11 56 35) 0 fun σ12 => bnd (iS σ12 56 34 0) fun σ13 => bnr (fX11_ahead σ13) fun σ14 => fX11_road_109 zF 0 σ14
theorem eX11_road {sc : Nat × (Nat → Int32)} (σ : zS) (w : Int32 × zS) (h : fX11_road σ = some w) : zR (zY0 sc) 8 0 0 mX11_road 0 [(0, .ref 56)] [] (zE σ) (some (.int w.1), zE w.2) := by
  unfold fX11_road at h
  refine kR.aload_n dX11_road_0 0 rfl ?_
  refine kR.aload_n dX11_road_1 0 rfl ?_
  refine kR.getI dX11_road_2 flX11_13 zcf11 zp56 (Or.inl rfl) ?_
  refine kR.putI dX11_road_5 fpX11_17 zcf11 zp56 rfl h (fun σ1 h => ?_)
  refine kR.aload_n dX11_road_8 0 rfl ?_
  refine zR.iconst (v := 0) dX11_road_9 (by decide) ?_
  refine kR.putI dX11_road_10 fpX11_13 zcf11 zp56 rfl h (fun σ2 h => ?_)
  refine kR.aload_n dX11_road_13 0 rfl ?_
  refine zR.iconst (v := 0) dX11_road_14 (by decide) ?_
  refine kR.putI dX11_road_15 fpX11_26 zcf11 zp56 rfl h (fun σ3 h => ?_)
  refine kR.aload_n dX11_road_18 0 rfl ?_
  refine zR.iconst (v := 0) dX11_road_19 (by decide) ?_
  refine kR.putI dX11_road_20 fpX11_36 zcf11 zp56 rfl h (fun σ4 h => ?_)
  refine kR.aload_n dX11_road_23 0 rfl ?_
  refine zR.iconst (v := (-1)) dX11_road_24 (by decide) ?_
  refine kR.putI dX11_road_25 fpX11_39 zcf11 zp56 rfl h (fun σ5 h => ?_)
  refine kR.aload_n dX11_road_28 0 rfl ?_
  refine zR.iconst (v := 1) dX11_road_29 (by decide) ?_
  refine kR.aload_n dX11_road_30 0 rfl ?_
  refine kR.getI dX11_road_31 flX11_51 zcf11 zp56 (Or.inl rfl) ?_
  refine zR.isub dX11_road_34 ?_
  refine kR.putI dX11_road_35 fpX11_118 zcf11 zp56 rfl h (fun σ6 h => ?_)
  refine kR.aload_n dX11_road_38 0 rfl ?_
  refine kR.getR (v := 58) dX11_road_39 flX11_54 zcf11 zp56 (Or.inr ⟨_, rfl⟩) rfl ?_
  refine kR.aload_n dX11_road_42 0 rfl ?_
  refine kR.getI dX11_road_43 flX11_118 zcf11 zp56 (Or.inl rfl) ?_
  refine zR.iconst (v := 0) dX11_road_46 (by decide) ?_
  refine kR.iast dX11_road_47 zp58 rfl h (fun σ7 h => ?_)
  refine kR.aload_n dX11_road_48 0 rfl ?_
  refine kR.getR (v := 63) dX11_road_49 flX11_69 zcf11 zp56 (Or.inr ⟨_, rfl⟩) rfl ?_
  refine kR.aload_n dX11_road_52 0 rfl ?_
  refine kR.getI dX11_road_53 flX11_118 zcf11 zp56 (Or.inl rfl) ?_
  refine zR.iconst (v := 0) dX11_road_56 (by decide) ?_
  refine kR.iast dX11_road_57 zp63 rfl h (fun σ8 h => ?_)
  refine kR.aload_n dX11_road_58 0 rfl ?_
  refine kR.getR (v := 68) dX11_road_59 flX11_84 zcf11 zp56 (Or.inr ⟨_, rfl⟩) rfl ?_
  refine kR.aload_n dX11_road_62 0 rfl ?_
  refine kR.getI dX11_road_63 flX11_118 zcf11 zp56 (Or.inl rfl) ?_
  refine zR.iconst (v := (-1)) dX11_road_66 (by decide) ?_
  refine kR.iast dX11_road_67 zp68 rfl h (fun σ9 h => ?_)
  refine kR.aload_n dX11_road_68 0 rfl ?_
  refine kR.getR (v := 70) dX11_road_69 flX11_90 zcf11 zp56 (Or.inr ⟨_, rfl⟩) rfl ?_
  refine kR.aload_n dX11_road_72 0 rfl ?_
  refine kR.getI dX11_road_73 flX11_118 zcf11 zp56 (Or.inl rfl) ?_
  refine zR.iconst (v := (-1)) dX11_road_76 (by decide) ?_
  refine kR.iast dX11_road_77 zp70 rfl h (fun σ10 h => ?_)
  refine kR.aload_n dX11_road_78 0 rfl ?_
  refine kR.getR (v := 72) dX11_road_79 flX11_96 zcf11 zp56 (Or.inr ⟨_, rfl⟩) rfl ?_
  refine kR.aload_n dX11_road_82 0 rfl ?_
  refine kR.getI dX11_road_83 flX11_118 zcf11 zp56 (Or.inl rfl) ?_
  refine zR.iconst (v := 0) dX11_road_86 (by decide) ?_
  refine kR.iast dX11_road_87 zp72 rfl h (fun σ11 h => ?_)
  refine kR.aload_n dX11_road_88 0 rfl ?_
  refine kR.getR (v := 73) dX11_road_89 flX11_99 zcf11 zp56 (Or.inr ⟨_, rfl⟩) rfl ?_
  refine kR.aload_n dX11_road_92 0 rfl ?_
  refine kR.getI dX11_road_93 flX11_118 zcf11 zp56 (Or.inl rfl) ?_
  refine zR.iconst (v := 0) dX11_road_96 (by decide) ?_
  refine kR.iast dX11_road_97 zp73 rfl h (fun σ12 h => ?_)
  refine kR.aload_n dX11_road_98 0 rfl ?_
  refine zR.iconst (v := 0) dX11_road_99 (by decide) ?_
  refine kR.putI dX11_road_100 fpX11_115 zcf11 zp56 rfl h (fun σ13 h => ?_)
  refine zR.iconst (v := 0) dX11_road_103 (by decide) ?_
  refine zR.istore_n (i := 1) (ls' := [(1, .int 0), (0, .ref 56)]) dX11_road_104 rfl (by decide) rfl ?_
  refine kR.aload_n dX11_road_105 1 rfl ?_
  obtain ⟨σ14, e15, h⟩ := bnr_some h
  refine kR.cVv [] dX11_road_106 rfl (by decide) mwX11_277 zp56 (by decide) rfl rfl (Nat.le_of_ble_eq_true rfl) (lX11_ahead σ13 _ e15) ?_
  refine zR.sub [1, 0] rfl ?_
  exact kX11_road_109 zF _ _ _ h
theorem lX11_road {sc : Nat × (Nat → Int32)} (σ : zS) (w : Int32 × zS) (h : fX11_road σ = some w) : zC (zY0 sc) 8 0 0 mX11_road [.ref 56] (zE σ) (some (.int w.1), zE w.2) := zC.of (by decide +kernel) (Nat.le_of_ble_eq_true rfl) ⟨_, rfl⟩ (eX11_road σ w h)
theorem dX11_fault_0 : decode cX11_fault 0 = .ok (.iload_n 1, 1) := by decide +kernel
theorem dX11_fault_1 : decode cX11_fault 1 = .ok (.ifCond .ne 10, 3) := by decide +kernel
theorem dX11_fault_4 : decode cX11_fault 4 = .ok (.aload_n 0, 1) := by decide +kernel
theorem dX11_fault_5 : decode cX11_fault 5 = .ok (.getfield 42, 3) := by decide +kernel
theorem dX11_fault_8 : decode cX11_fault 8 = .ok (.goto 16, 3) := by decide +kernel
theorem dX11_fault_11 : decode cX11_fault 11 = .ok (.iload_n 1, 1) := by decide +kernel
theorem dX11_fault_12 : decode cX11_fault 12 = .ok (.iconst 1, 1) := by decide +kernel
theorem dX11_fault_13 : decode cX11_fault 13 = .ok (.if_icmp .ne 10, 3) := by decide +kernel
theorem dX11_fault_16 : decode cX11_fault 16 = .ok (.aload_n 0, 1) := by decide +kernel
theorem dX11_fault_17 : decode cX11_fault 17 = .ok (.getfield 45, 3) := by decide +kernel
theorem dX11_fault_20 : decode cX11_fault 20 = .ok (.goto 4, 3) := by decide +kernel
theorem dX11_fault_23 : decode cX11_fault 23 = .ok (.iconst (-1), 1) := by decide +kernel
theorem dX11_fault_24 : decode cX11_fault 24 = .ok (.ireturn, 1) := by decide +kernel
def fX11_fault (σ : zS) (p1 : Int32) : Int32 := if p1 = 0 then iG σ 56 10 else if p1 = 1 then iG σ 56 11 else (-1)
theorem eX11_fault {sc : Nat × (Nat → Int32)} (σ : zS) (p1 : Int32) (w : Int32) (h : fX11_fault σ p1 = w) : zR (zY0 sc) 1 0 0 mX11_fault 0 [(0, .ref 56), (1, .int p1)] [] (zE σ) (some (.int w), zE σ) := by
  unfold fX11_fault at h
  refine kR.iload_n dX11_fault_0 1 rfl ?_
  refine kR.if_ne (tgt := 11) dX11_fault_1 (by decide) h (fun h => ?_) (fun h => ?_)
  · refine kR.iload_n dX11_fault_11 1 rfl ?_
    refine zR.iconst (v := 1) dX11_fault_12 (by decide) ?_
    refine kR.icmp_ne (tgt := 23) dX11_fault_13 (by decide) h (fun h => ?_) (fun h => ?_)
    · refine zR.iconst (v := (-1)) dX11_fault_23 (by decide) ?_
      exact kR.iret dX11_fault_24 (nzI rfl _) h
    · refine kR.aload_n dX11_fault_16 0 rfl ?_
      refine kR.getI dX11_fault_17 flX11_45 zcf11 zp56 (Or.inl rfl) ?_
      refine zR.goto (tgt := 24) dX11_fault_20 (by decide) ?_
      exact kR.iret dX11_fault_24 (nzI rfl _) h
  · refine kR.aload_n dX11_fault_4 0 rfl ?_
    refine kR.getI dX11_fault_5 flX11_42 zcf11 zp56 (Or.inl rfl) ?_
    refine zR.goto (tgt := 24) dX11_fault_8 (by decide) ?_
    exact kR.iret dX11_fault_24 (nzI rfl _) h
theorem lX11_fault {sc : Nat × (Nat → Int32)} (σ : zS) (p1 : Int32) : zC (zY0 sc) 1 0 0 mX11_fault [.ref 56, .int p1] (zE σ) (some (.int (fX11_fault σ p1)), zE σ) := zC.of (by decide +kernel) (Nat.le_of_ble_eq_true rfl) ⟨_, rfl⟩ (eX11_fault σ p1 _ rfl)
theorem dX11_status_0 : decode cX11_status 0 = .ok (.iload_n 1, 1) := by decide +kernel
theorem dX11_status_1 : decode cX11_status 1 = .ok (.iconst 0, 1) := by decide +kernel
theorem dX11_status_2 : decode cX11_status 2 = .ok (.iconst 4, 1) := by decide +kernel
theorem dX11_status_3 : decode cX11_status 3 = .ok (.invokestatic 338, 3) := by decide +kernel
theorem dX11_status_6 : decode cX11_status 6 = .ok (.ifCond .eq 12, 3) := by decide +kernel
theorem dX11_status_9 : decode cX11_status 9 = .ok (.aload_n 0, 1) := by decide +kernel
theorem dX11_status_10 : decode cX11_status 10 = .ok (.getfield 153, 3) := by decide +kernel
theorem dX11_status_13 : decode cX11_status 13 = .ok (.iload_n 1, 1) := by decide +kernel
theorem dX11_status_14 : decode cX11_status 14 = .ok (.iaload, 1) := by decide +kernel
theorem dX11_status_15 : decode cX11_status 15 = .ok (.goto 4, 3) := by decide +kernel
theorem dX11_status_18 : decode cX11_status 18 = .ok (.iconst (-1), 1) := by decide +kernel
theorem dX11_status_19 : decode cX11_status 19 = .ok (.ireturn, 1) := by decide +kernel
def fX11_status (σ : zS) (p1 : Int32) : Option Int32 := if (fX11_is p1 0 4) = 0 then some ((-1)) else aI σ 84 5 p1 fun v1 => some v1
theorem eX11_status {sc : Nat × (Nat → Int32)} (σ : zS) (p1 : Int32) (w : Int32) (h : fX11_status σ p1 = some w) : zR (zY0 sc) 2 0 0 mX11_status 0 [(0, .ref 56), (1, .int p1)] [] (zE σ) (some (.int w), zE σ) := by
  unfold fX11_status at h
  refine kR.iload_n dX11_status_0 1 rfl ?_
  refine zR.iconst (v := 0) dX11_status_1 (by decide) ?_
  refine zR.iconst (v := 4) dX11_status_2 (by decide) ?_
  refine kR.cSi [.int p1, .int 0, .int 4] dX11_status_3 rfl (by decide) (Or.inl mwX11_338) rfl (Nat.le_of_ble_eq_true rfl) (lX11_is p1 0 4) ?_
  refine kR.if_eq (tgt := 18) dX11_status_6 (by decide) h (fun h => ?_) (fun h => ?_)
  · refine zR.iconst (v := (-1)) dX11_status_18 (by decide) ?_
    exact kR.iretO dX11_status_19 (nzI rfl _) h
  · refine kR.aload_n dX11_status_9 0 rfl ?_
    refine kR.getR (v := 84) dX11_status_10 flX11_153 zcf11 zp56 (Or.inr ⟨_, rfl⟩) rfl ?_
    refine kR.iload_n dX11_status_13 1 rfl ?_
    refine kR.iald dX11_status_14 zp84 rfl h (fun v1 h => ?_)
    refine zR.goto (tgt := 19) dX11_status_15 (by decide) ?_
    exact kR.iretO dX11_status_19 (nzI rfl _) h
theorem lX11_status {sc : Nat × (Nat → Int32)} (σ : zS) (p1 : Int32) (w : Int32) (h : fX11_status σ p1 = some w) : zC (zY0 sc) 2 0 0 mX11_status [.ref 56, .int p1] (zE σ) (some (.int w), zE σ) := zC.of (by decide +kernel) (Nat.le_of_ble_eq_true rfl) ⟨_, rfl⟩ (eX11_status σ p1 w h)
theorem dX11_isTunnel_0 : decode cX11_isTunnel 0 = .ok (.iload_n 1, 1) := by decide +kernel
theorem dX11_isTunnel_1 : decode cX11_isTunnel 1 = .ok (.ifCond .lt 20, 3) := by decide +kernel
theorem dX11_isTunnel_4 : decode cX11_isTunnel 4 = .ok (.iload_n 1, 1) := by decide +kernel
theorem dX11_isTunnel_5 : decode cX11_isTunnel 5 = .ok (.aload_n 0, 1) := by decide +kernel
theorem dX11_isTunnel_6 : decode cX11_isTunnel 6 = .ok (.getfield 54, 3) := by decide +kernel
theorem dX11_isTunnel_9 : decode cX11_isTunnel 9 = .ok (.aload_n 0, 1) := by decide +kernel
theorem dX11_isTunnel_10 : decode cX11_isTunnel 10 = .ok (.getfield 51, 3) := by decide +kernel
theorem dX11_isTunnel_13 : decode cX11_isTunnel 13 = .ok (.iaload, 1) := by decide +kernel
theorem dX11_isTunnel_14 : decode cX11_isTunnel 14 = .ok (.if_icmp .ge 7, 3) := by decide +kernel
theorem dX11_isTunnel_17 : decode cX11_isTunnel 17 = .ok (.iconst 1, 1) := by decide +kernel
theorem dX11_isTunnel_18 : decode cX11_isTunnel 18 = .ok (.goto 4, 3) := by decide +kernel
theorem dX11_isTunnel_21 : decode cX11_isTunnel 21 = .ok (.iconst 0, 1) := by decide +kernel
theorem dX11_isTunnel_22 : decode cX11_isTunnel 22 = .ok (.ireturn, 1) := by decide +kernel
def fX11_isTunnel (σ : zS) (p1 : Int32) : Option Int32 := if p1 < 0 then some 0 else aI σ 58 2 (iG σ 56 13) fun v1 => if v1 ≤ p1 then some 0 else some 1
theorem eX11_isTunnel {sc : Nat × (Nat → Int32)} (σ : zS) (p1 : Int32) (w : Int32) (h : fX11_isTunnel σ p1 = some w) : zR (zY0 sc) 1 0 0 mX11_isTunnel 0 [(0, .ref 56), (1, .int p1)] [] (zE σ) (some (.int w), zE σ) := by
  unfold fX11_isTunnel at h
  refine kR.iload_n dX11_isTunnel_0 1 rfl ?_
  refine kR.if_lt (tgt := 21) dX11_isTunnel_1 (by decide) h (fun h => ?_) (fun h => ?_)
  · refine zR.iconst (v := 0) dX11_isTunnel_21 (by decide) ?_
    exact kR.iretO dX11_isTunnel_22 (nzZ rfl (Or.inl rfl)) h
  · refine kR.iload_n dX11_isTunnel_4 1 rfl ?_
    refine kR.aload_n dX11_isTunnel_5 0 rfl ?_
    refine kR.getR (v := 58) dX11_isTunnel_6 flX11_54 zcf11 zp56 (Or.inr ⟨_, rfl⟩) rfl ?_
    refine kR.aload_n dX11_isTunnel_9 0 rfl ?_
    refine kR.getI dX11_isTunnel_10 flX11_51 zcf11 zp56 (Or.inl rfl) ?_
    refine kR.iald dX11_isTunnel_13 zp58 rfl h (fun v1 h => ?_)
    refine kR.icmp_ge (tgt := 21) dX11_isTunnel_14 (by decide) h (fun h => ?_) (fun h => ?_)
    · refine zR.iconst (v := 0) dX11_isTunnel_21 (by decide) ?_
      exact kR.iretO dX11_isTunnel_22 (nzZ rfl (Or.inl rfl)) h
    · refine zR.iconst (v := 1) dX11_isTunnel_17 (by decide) ?_
      refine zR.goto (tgt := 22) dX11_isTunnel_18 (by decide) ?_
      exact kR.iretO dX11_isTunnel_22 (nzZ rfl (Or.inr rfl)) h
theorem lX11_isTunnel {sc : Nat × (Nat → Int32)} (σ : zS) (p1 : Int32) (w : Int32) (h : fX11_isTunnel σ p1 = some w) : zC (zY0 sc) 1 0 0 mX11_isTunnel [.ref 56, .int p1] (zE σ) (some (.int w), zE σ) := zC.of (by decide +kernel) (Nat.le_of_ble_eq_true rfl) ⟨_, rfl⟩ (eX11_isTunnel σ p1 w h)
theorem dX11_isHolder_0 : decode cX11_isHolder 0 = .ok (.iload_n 1, 1) := by decide +kernel
theorem dX11_isHolder_1 : decode cX11_isHolder 1 = .ok (.ifCond .lt 20, 3) := by decide +kernel
theorem dX11_isHolder_4 : decode cX11_isHolder 4 = .ok (.iload_n 1, 1) := by decide +kernel
theorem dX11_isHolder_5 : decode cX11_isHolder 5 = .ok (.aload_n 0, 1) := by decide +kernel
theorem dX11_isHolder_6 : decode cX11_isHolder 6 = .ok (.getfield 69, 3) := by decide +kernel
theorem dX11_isHolder_9 : decode cX11_isHolder 9 = .ok (.aload_n 0, 1) := by decide +kernel
theorem dX11_isHolder_10 : decode cX11_isHolder 10 = .ok (.getfield 51, 3) := by decide +kernel
theorem dX11_isHolder_13 : decode cX11_isHolder 13 = .ok (.iaload, 1) := by decide +kernel
theorem dX11_isHolder_14 : decode cX11_isHolder 14 = .ok (.if_icmp .ge 7, 3) := by decide +kernel
theorem dX11_isHolder_17 : decode cX11_isHolder 17 = .ok (.iconst 1, 1) := by decide +kernel
theorem dX11_isHolder_18 : decode cX11_isHolder 18 = .ok (.goto 4, 3) := by decide +kernel
theorem dX11_isHolder_21 : decode cX11_isHolder 21 = .ok (.iconst 0, 1) := by decide +kernel
theorem dX11_isHolder_22 : decode cX11_isHolder 22 = .ok (.ireturn, 1) := by decide +kernel
def fX11_isHolder (σ : zS) (p1 : Int32) : Option Int32 := if p1 < 0 then some 0 else aI σ 63 2 (iG σ 56 13) fun v1 => if v1 ≤ p1 then some 0 else some 1
theorem eX11_isHolder {sc : Nat × (Nat → Int32)} (σ : zS) (p1 : Int32) (w : Int32) (h : fX11_isHolder σ p1 = some w) : zR (zY0 sc) 1 0 0 mX11_isHolder 0 [(0, .ref 56), (1, .int p1)] [] (zE σ) (some (.int w), zE σ) := by
  unfold fX11_isHolder at h
  refine kR.iload_n dX11_isHolder_0 1 rfl ?_
  refine kR.if_lt (tgt := 21) dX11_isHolder_1 (by decide) h (fun h => ?_) (fun h => ?_)
  · refine zR.iconst (v := 0) dX11_isHolder_21 (by decide) ?_
    exact kR.iretO dX11_isHolder_22 (nzZ rfl (Or.inl rfl)) h
  · refine kR.iload_n dX11_isHolder_4 1 rfl ?_
    refine kR.aload_n dX11_isHolder_5 0 rfl ?_
    refine kR.getR (v := 63) dX11_isHolder_6 flX11_69 zcf11 zp56 (Or.inr ⟨_, rfl⟩) rfl ?_
    refine kR.aload_n dX11_isHolder_9 0 rfl ?_
    refine kR.getI dX11_isHolder_10 flX11_51 zcf11 zp56 (Or.inl rfl) ?_
    refine kR.iald dX11_isHolder_13 zp63 rfl h (fun v1 h => ?_)
    refine kR.icmp_ge (tgt := 21) dX11_isHolder_14 (by decide) h (fun h => ?_) (fun h => ?_)
    · refine zR.iconst (v := 0) dX11_isHolder_21 (by decide) ?_
      exact kR.iretO dX11_isHolder_22 (nzZ rfl (Or.inl rfl)) h
    · refine zR.iconst (v := 1) dX11_isHolder_17 (by decide) ?_
      refine zR.goto (tgt := 22) dX11_isHolder_18 (by decide) ?_
      exact kR.iretO dX11_isHolder_22 (nzZ rfl (Or.inr rfl)) h
theorem lX11_isHolder {sc : Nat × (Nat → Int32)} (σ : zS) (p1 : Int32) (w : Int32) (h : fX11_isHolder σ p1 = some w) : zC (zY0 sc) 1 0 0 mX11_isHolder [.ref 56, .int p1] (zE σ) (some (.int w), zE σ) := zC.of (by decide +kernel) (Nat.le_of_ble_eq_true rfl) ⟨_, rfl⟩ (eX11_isHolder σ p1 w h)
theorem dX11_lengthsOf_0 : decode cX11_lengthsOf 0 = .ok (.aload_n 0, 1) := by decide +kernel
theorem dX11_lengthsOf_1 : decode cX11_lengthsOf 1 = .ok (.getfield 60, 3) := by decide +kernel
theorem dX11_lengthsOf_4 : decode cX11_lengthsOf 4 = .ok (.bipush 6, 2) := by decide +kernel
theorem dX11_lengthsOf_6 : decode cX11_lengthsOf 6 = .ok (.aload_n 0, 1) := by decide +kernel
theorem dX11_lengthsOf_7 : decode cX11_lengthsOf 7 = .ok (.getfield 51, 3) := by decide +kernel
theorem dX11_lengthsOf_10 : decode cX11_lengthsOf 10 = .ok (.imul, 1) := by decide +kernel
theorem dX11_lengthsOf_11 : decode cX11_lengthsOf 11 = .ok (.iload_n 1, 1) := by decide +kernel
theorem dX11_lengthsOf_12 : decode cX11_lengthsOf 12 = .ok (.iadd, 1) := by decide +kernel
theorem dX11_lengthsOf_13 : decode cX11_lengthsOf 13 = .ok (.iaload, 1) := by decide +kernel
theorem dX11_lengthsOf_14 : decode cX11_lengthsOf 14 = .ok (.ireturn, 1) := by decide +kernel
def fX11_lengthsOf (σ : zS) (p1 : Int32) : Option Int32 := aI σ 60 12 ((6 * (iG σ 56 13)) + p1) fun v1 => some v1
theorem eX11_lengthsOf {sc : Nat × (Nat → Int32)} (σ : zS) (p1 : Int32) (w : Int32) (h : fX11_lengthsOf σ p1 = some w) : zR (zY0 sc) 1 0 0 mX11_lengthsOf 0 [(0, .ref 56), (1, .int p1)] [] (zE σ) (some (.int w), zE σ) := by
  unfold fX11_lengthsOf at h
  refine kR.aload_n dX11_lengthsOf_0 0 rfl ?_
  refine kR.getR (v := 60) dX11_lengthsOf_1 flX11_60 zcf11 zp56 (Or.inr ⟨_, rfl⟩) rfl ?_
  refine zR.bipush (v := 6) dX11_lengthsOf_4 (by decide) ?_
  refine kR.aload_n dX11_lengthsOf_6 0 rfl ?_
  refine kR.getI dX11_lengthsOf_7 flX11_51 zcf11 zp56 (Or.inl rfl) ?_
  refine zR.imul dX11_lengthsOf_10 ?_
  refine kR.iload_n dX11_lengthsOf_11 1 rfl ?_
  refine zR.iadd dX11_lengthsOf_12 ?_
  refine kR.iald dX11_lengthsOf_13 zp60 rfl h (fun v1 h => ?_)
  exact kR.iretO dX11_lengthsOf_14 (nzI rfl _) h
theorem lX11_lengthsOf {sc : Nat × (Nat → Int32)} (σ : zS) (p1 : Int32) (w : Int32) (h : fX11_lengthsOf σ p1 = some w) : zC (zY0 sc) 1 0 0 mX11_lengthsOf [.ref 56, .int p1] (zE σ) (some (.int w), zE σ) := zC.of (by decide +kernel) (Nat.le_of_ble_eq_true rfl) ⟨_, rfl⟩ (eX11_lengthsOf σ p1 w h)
theorem dX11_lengthAt_0 : decode cX11_lengthAt 0 = .ok (.aload_n 0, 1) := by decide +kernel
theorem dX11_lengthAt_1 : decode cX11_lengthAt 1 = .ok (.getfield 63, 3) := by decide +kernel
theorem dX11_lengthAt_4 : decode cX11_lengthAt 4 = .ok (.iconst 4, 1) := by decide +kernel
theorem dX11_lengthAt_5 : decode cX11_lengthAt 5 = .ok (.bipush 6, 2) := by decide +kernel
theorem dX11_lengthAt_7 : decode cX11_lengthAt 7 = .ok (.aload_n 0, 1) := by decide +kernel
theorem dX11_lengthAt_8 : decode cX11_lengthAt 8 = .ok (.getfield 51, 3) := by decide +kernel
theorem dX11_lengthAt_11 : decode cX11_lengthAt 11 = .ok (.imul, 1) := by decide +kernel
theorem dX11_lengthAt_12 : decode cX11_lengthAt 12 = .ok (.iload_n 1, 1) := by decide +kernel
theorem dX11_lengthAt_13 : decode cX11_lengthAt 13 = .ok (.iadd, 1) := by decide +kernel
theorem dX11_lengthAt_14 : decode cX11_lengthAt 14 = .ok (.imul, 1) := by decide +kernel
theorem dX11_lengthAt_15 : decode cX11_lengthAt 15 = .ok (.iload_n 2, 1) := by decide +kernel
theorem dX11_lengthAt_16 : decode cX11_lengthAt 16 = .ok (.iadd, 1) := by decide +kernel
theorem dX11_lengthAt_17 : decode cX11_lengthAt 17 = .ok (.iaload, 1) := by decide +kernel
theorem dX11_lengthAt_18 : decode cX11_lengthAt 18 = .ok (.ireturn, 1) := by decide +kernel
def fX11_lengthAt (σ : zS) (p1 : Int32) (p2 : Int32) : Option Int32 := aI σ 61 48 ((4 * ((6 * (iG σ 56 13)) + p1)) + p2) fun v1 => some v1
theorem eX11_lengthAt {sc : Nat × (Nat → Int32)} (σ : zS) (p1 : Int32) (p2 : Int32) (w : Int32) (h : fX11_lengthAt σ p1 p2 = some w) : zR (zY0 sc) 1 0 0 mX11_lengthAt 0 [(0, .ref 56), (1, .int p1), (2, .int p2)] [] (zE σ) (some (.int w), zE σ) := by
  unfold fX11_lengthAt at h
  refine kR.aload_n dX11_lengthAt_0 0 rfl ?_
  refine kR.getR (v := 61) dX11_lengthAt_1 flX11_63 zcf11 zp56 (Or.inr ⟨_, rfl⟩) rfl ?_
  refine zR.iconst (v := 4) dX11_lengthAt_4 (by decide) ?_
  refine zR.bipush (v := 6) dX11_lengthAt_5 (by decide) ?_
  refine kR.aload_n dX11_lengthAt_7 0 rfl ?_
  refine kR.getI dX11_lengthAt_8 flX11_51 zcf11 zp56 (Or.inl rfl) ?_
  refine zR.imul dX11_lengthAt_11 ?_
  refine kR.iload_n dX11_lengthAt_12 1 rfl ?_
  refine zR.iadd dX11_lengthAt_13 ?_
  refine zR.imul dX11_lengthAt_14 ?_
  refine kR.iload_n dX11_lengthAt_15 2 rfl ?_
  refine zR.iadd dX11_lengthAt_16 ?_
  refine kR.iald dX11_lengthAt_17 zp61 rfl h (fun v1 h => ?_)
  exact kR.iretO dX11_lengthAt_18 (nzI rfl _) h
theorem lX11_lengthAt {sc : Nat × (Nat → Int32)} (σ : zS) (p1 : Int32) (p2 : Int32) (w : Int32) (h : fX11_lengthAt σ p1 p2 = some w) : zC (zY0 sc) 1 0 0 mX11_lengthAt [.ref 56, .int p1, .int p2] (zE σ) (some (.int w), zE σ) := zC.of (by decide +kernel) (Nat.le_of_ble_eq_true rfl) ⟨_, rfl⟩ (eX11_lengthAt σ p1 p2 w h)
theorem dX11_weightAt_0 : decode cX11_weightAt 0 = .ok (.aload_n 0, 1) := by decide +kernel
theorem dX11_weightAt_1 : decode cX11_weightAt 1 = .ok (.getfield 66, 3) := by decide +kernel
theorem dX11_weightAt_4 : decode cX11_weightAt 4 = .ok (.iconst 4, 1) := by decide +kernel
theorem dX11_weightAt_5 : decode cX11_weightAt 5 = .ok (.bipush 6, 2) := by decide +kernel
theorem dX11_weightAt_7 : decode cX11_weightAt 7 = .ok (.aload_n 0, 1) := by decide +kernel
theorem dX11_weightAt_8 : decode cX11_weightAt 8 = .ok (.getfield 51, 3) := by decide +kernel
theorem dX11_weightAt_11 : decode cX11_weightAt 11 = .ok (.imul, 1) := by decide +kernel
theorem dX11_weightAt_12 : decode cX11_weightAt 12 = .ok (.iload_n 1, 1) := by decide +kernel
theorem dX11_weightAt_13 : decode cX11_weightAt 13 = .ok (.iadd, 1) := by decide +kernel
theorem dX11_weightAt_14 : decode cX11_weightAt 14 = .ok (.imul, 1) := by decide +kernel
theorem dX11_weightAt_15 : decode cX11_weightAt 15 = .ok (.iload_n 2, 1) := by decide +kernel
theorem dX11_weightAt_16 : decode cX11_weightAt 16 = .ok (.iadd, 1) := by decide +kernel
theorem dX11_weightAt_17 : decode cX11_weightAt 17 = .ok (.iaload, 1) := by decide +kernel
theorem dX11_weightAt_18 : decode cX11_weightAt 18 = .ok (.ireturn, 1) := by decide +kernel
def fX11_weightAt (σ : zS) (p1 : Int32) (p2 : Int32) : Option Int32 := aI σ 62 48 ((4 * ((6 * (iG σ 56 13)) + p1)) + p2) fun v1 => some v1
theorem eX11_weightAt {sc : Nat × (Nat → Int32)} (σ : zS) (p1 : Int32) (p2 : Int32) (w : Int32) (h : fX11_weightAt σ p1 p2 = some w) : zR (zY0 sc) 1 0 0 mX11_weightAt 0 [(0, .ref 56), (1, .int p1), (2, .int p2)] [] (zE σ) (some (.int w), zE σ) := by
  unfold fX11_weightAt at h
  refine kR.aload_n dX11_weightAt_0 0 rfl ?_
  refine kR.getR (v := 62) dX11_weightAt_1 flX11_66 zcf11 zp56 (Or.inr ⟨_, rfl⟩) rfl ?_
  refine zR.iconst (v := 4) dX11_weightAt_4 (by decide) ?_
  refine zR.bipush (v := 6) dX11_weightAt_5 (by decide) ?_
  refine kR.aload_n dX11_weightAt_7 0 rfl ?_
  refine kR.getI dX11_weightAt_8 flX11_51 zcf11 zp56 (Or.inl rfl) ?_
  refine zR.imul dX11_weightAt_11 ?_
  refine kR.iload_n dX11_weightAt_12 1 rfl ?_
  refine zR.iadd dX11_weightAt_13 ?_
  refine zR.imul dX11_weightAt_14 ?_
  refine kR.iload_n dX11_weightAt_15 2 rfl ?_
  refine zR.iadd dX11_weightAt_16 ?_
  refine kR.iald dX11_weightAt_17 zp62 rfl h (fun v1 h => ?_)
  exact kR.iretO dX11_weightAt_18 (nzI rfl _) h
theorem lX11_weightAt {sc : Nat × (Nat → Int32)} (σ : zS) (p1 : Int32) (p2 : Int32) (w : Int32) (h : fX11_weightAt σ p1 p2 = some w) : zC (zY0 sc) 1 0 0 mX11_weightAt [.ref 56, .int p1, .int p2] (zE σ) (some (.int w), zE σ) := zC.of (by decide +kernel) (Nat.le_of_ble_eq_true rfl) ⟨_, rfl⟩ (eX11_weightAt σ p1 p2 w h)
theorem dX11_weights_0 : decode cX11_weights 0 = .ok (.iconst 0, 1) := by decide +kernel
theorem dX11_weights_1 : decode cX11_weights 1 = .ok (.istore_n 2, 1) := by decide +kernel
theorem dX11_weights_2 : decode cX11_weights 2 = .ok (.iconst 0, 1) := by decide +kernel
theorem dX11_weights_3 : decode cX11_weights 3 = .ok (.istore_n 3, 1) := by decide +kernel
theorem dX11_weights_4 : decode cX11_weights 4 = .ok (.iload_n 3, 1) := by decide +kernel
theorem dX11_weights_5 : decode cX11_weights 5 = .ok (.aload_n 0, 1) := by decide +kernel
theorem dX11_weights_6 : decode cX11_weights 6 = .ok (.iload_n 1, 1) := by decide +kernel
theorem dX11_weights_7 : decode cX11_weights 7 = .ok (.invokevirtual 437, 3) := by decide +kernel
theorem dX11_weights_10 : decode cX11_weights 10 = .ok (.if_icmp .ge 18, 3) := by decide +kernel
theorem dX11_weights_13 : decode cX11_weights 13 = .ok (.iload_n 2, 1) := by decide +kernel
theorem dX11_weights_14 : decode cX11_weights 14 = .ok (.aload_n 0, 1) := by decide +kernel
theorem dX11_weights_15 : decode cX11_weights 15 = .ok (.iload_n 1, 1) := by decide +kernel
theorem dX11_weights_16 : decode cX11_weights 16 = .ok (.iload_n 3, 1) := by decide +kernel
theorem dX11_weights_17 : decode cX11_weights 17 = .ok (.invokevirtual 440, 3) := by decide +kernel
theorem dX11_weights_20 : decode cX11_weights 20 = .ok (.iadd, 1) := by decide +kernel
theorem dX11_weights_21 : decode cX11_weights 21 = .ok (.istore_n 2, 1) := by decide +kernel
theorem dX11_weights_22 : decode cX11_weights 22 = .ok (.iinc 3 1, 3) := by decide +kernel
theorem dX11_weights_25 : decode cX11_weights 25 = .ok (.goto (-21), 3) := by decide +kernel
theorem dX11_weights_28 : decode cX11_weights 28 = .ok (.iload_n 2, 1) := by decide +kernel
theorem dX11_weights_29 : decode cX11_weights 29 = .ok (.ireturn, 1) := by decide +kernel
def fX11_weights_4 (σ : zS) : Nat → Int32 → Int32 → Int32 → Option Int32
  | 0, _, _, _ => none
  | f + 1, x1, x2, x3 => bnr (fX11_lengthsOf σ x1) fun v1 => if v1 ≤ x3 then some x2 else bnr (fX11_weightAt σ x1 x3) fun v3 => fX11_weights_4 σ f x1 (x2 + v3) (x3 + 1)
theorem kX11_weights_4 {sc : Nat × (Nat → Int32)} (σ : zS) : ∀ (fuel : Nat) (x1 : Int32) (x2 : Int32) (x3 : Int32) (w : Int32) (h : fX11_weights_4 σ fuel x1 x2 x3 = some w), zR (zY0 sc) 2 0 0 mX11_weights 4 [(0, .ref 56), (1, .int x1), (2, .int x2), (3, .int x3)] [] (zE σ) (some (.int w), zE σ) := by
  intro fuel
  induction fuel with
  | zero => intro x1 x2 x3 w h; exact nomatch h
  | succ f ih =>
    intro x1 x2 x3 w h
    rw [fX11_weights_4] at h
    refine kR.iload_n dX11_weights_4 3 rfl ?_
    refine kR.aload_n dX11_weights_5 0 rfl ?_
    refine kR.iload_n dX11_weights_6 1 rfl ?_
    obtain ⟨v1, e2, h⟩ := bnr_some h
    refine kR.cVi [.int x1] dX11_weights_7 rfl (by decide) mwX11_437 zp56 (by decide) rfl rfl (Nat.le_of_ble_eq_true rfl) (lX11_lengthsOf σ x1 _ e2) ?_
    refine kR.icmp_ge (tgt := 28) dX11_weights_10 (by decide) h (fun h => ?_) (fun h => ?_)
    · refine kR.iload_n dX11_weights_28 2 rfl ?_
      exact kR.iretO dX11_weights_29 (nzI rfl _) h
    · refine kR.iload_n dX11_weights_13 2 rfl ?_
      refine kR.aload_n dX11_weights_14 0 rfl ?_
      refine kR.iload_n dX11_weights_15 1 rfl ?_
      refine kR.iload_n dX11_weights_16 3 rfl ?_
      obtain ⟨v3, e4, h⟩ := bnr_some h
      refine kR.cVi [.int x1, .int x3] dX11_weights_17 rfl (by decide) mwX11_440 zp56 (by decide) rfl rfl (Nat.le_of_ble_eq_true rfl) (lX11_weightAt σ x1 x3 _ e4) ?_
      refine zR.iadd dX11_weights_20 ?_
      refine zR.istore_n (i := 2) (ls' := [(2, .int (x2 + v3)), (0, .ref 56), (1, .int x1), (3, .int x3)]) dX11_weights_21 rfl (by decide) rfl ?_
      refine zR.iinc 3 (v := x3 + 1) (ls' := [(3, .int (x3 + 1)), (2, .int (x2 + v3)), (0, .ref 56), (1, .int x1)]) dX11_weights_22 rfl rfl (by decide) rfl ?_
      refine zR.goto (tgt := 4) dX11_weights_25 (by decide) ?_
      refine zR.sub [2, 3, 1, 0] rfl ?_
      exact ih _ _ _ _ h
def fX11_weights (σ : zS) (p1 : Int32) : Option Int32 := fX11_weights_4 σ zF p1 0 0
theorem eX11_weights {sc : Nat × (Nat → Int32)} (σ : zS) (p1 : Int32) (w : Int32) (h : fX11_weights σ p1 = some w) : zR (zY0 sc) 2 0 0 mX11_weights 0 [(0, .ref 56), (1, .int p1)] [] (zE σ) (some (.int w), zE σ) := by
  unfold fX11_weights at h
  refine zR.iconst (v := 0) dX11_weights_0 (by decide) ?_
  refine zR.istore_n (i := 2) (ls' := [(2, .int 0), (0, .ref 56), (1, .int p1)]) dX11_weights_1 rfl (by decide) rfl ?_
  refine zR.iconst (v := 0) dX11_weights_2 (by decide) ?_
  refine zR.istore_n (i := 3) (ls' := [(3, .int 0), (2, .int 0), (0, .ref 56), (1, .int p1)]) dX11_weights_3 rfl (by decide) rfl ?_
  refine zR.sub [2, 3, 1, 0] rfl ?_
  exact kX11_weights_4 σ zF _ _ _ _ h
theorem lX11_weights {sc : Nat × (Nat → Int32)} (σ : zS) (p1 : Int32) (w : Int32) (h : fX11_weights σ p1 = some w) : zC (zY0 sc) 2 0 0 mX11_weights [.ref 56, .int p1] (zE σ) (some (.int w), zE σ) := zC.of (by decide +kernel) (Nat.le_of_ble_eq_true rfl) ⟨_, rfl⟩ (eX11_weights σ p1 w h)
theorem dX11_copies_0 : decode cX11_copies 0 = .ok (.aload_n 0, 1) := by decide +kernel
theorem dX11_copies_1 : decode cX11_copies 1 = .ok (.getfield 156, 3) := by decide +kernel
theorem dX11_copies_4 : decode cX11_copies 4 = .ok (.iload_n 1, 1) := by decide +kernel
theorem dX11_copies_5 : decode cX11_copies 5 = .ok (.aload_n 0, 1) := by decide +kernel
theorem dX11_copies_6 : decode cX11_copies 6 = .ok (.getfield 156, 3) := by decide +kernel
theorem dX11_copies_9 : decode cX11_copies 9 = .ok (.iload_n 2, 1) := by decide +kernel
theorem dX11_copies_10 : decode cX11_copies 10 = .ok (.iaload, 1) := by decide +kernel
theorem dX11_copies_11 : decode cX11_copies 11 = .ok (.iastore, 1) := by decide +kernel
theorem dX11_copies_12 : decode cX11_copies 12 = .ok (.iconst 0, 1) := by decide +kernel
theorem dX11_copies_13 : decode cX11_copies 13 = .ok (.istore_n 3, 1) := by decide +kernel
theorem dX11_copies_14 : decode cX11_copies 14 = .ok (.iload_n 3, 1) := by decide +kernel
theorem dX11_copies_15 : decode cX11_copies 15 = .ok (.bipush 6, 2) := by decide +kernel
theorem dX11_copies_17 : decode cX11_copies 17 = .ok (.if_icmp .ge 75, 3) := by decide +kernel
theorem dX11_copies_20 : decode cX11_copies 20 = .ok (.aload_n 0, 1) := by decide +kernel
theorem dX11_copies_21 : decode cX11_copies 21 = .ok (.getfield 159, 3) := by decide +kernel
theorem dX11_copies_24 : decode cX11_copies 24 = .ok (.bipush 6, 2) := by decide +kernel
theorem dX11_copies_26 : decode cX11_copies 26 = .ok (.iload_n 1, 1) := by decide +kernel
theorem dX11_copies_27 : decode cX11_copies 27 = .ok (.imul, 1) := by decide +kernel
theorem dX11_copies_28 : decode cX11_copies 28 = .ok (.iload_n 3, 1) := by decide +kernel
theorem dX11_copies_29 : decode cX11_copies 29 = .ok (.iadd, 1) := by decide +kernel
theorem dX11_copies_30 : decode cX11_copies 30 = .ok (.aload_n 0, 1) := by decide +kernel
theorem dX11_copies_31 : decode cX11_copies 31 = .ok (.getfield 159, 3) := by decide +kernel
theorem dX11_copies_34 : decode cX11_copies 34 = .ok (.bipush 6, 2) := by decide +kernel
theorem dX11_copies_36 : decode cX11_copies 36 = .ok (.iload_n 2, 1) := by decide +kernel
theorem dX11_copies_37 : decode cX11_copies 37 = .ok (.imul, 1) := by decide +kernel
theorem dX11_copies_38 : decode cX11_copies 38 = .ok (.iload_n 3, 1) := by decide +kernel
theorem dX11_copies_39 : decode cX11_copies 39 = .ok (.iadd, 1) := by decide +kernel
theorem dX11_copies_40 : decode cX11_copies 40 = .ok (.iaload, 1) := by decide +kernel
theorem dX11_copies_41 : decode cX11_copies 41 = .ok (.iastore, 1) := by decide +kernel
theorem dX11_copies_42 : decode cX11_copies 42 = .ok (.aload_n 0, 1) := by decide +kernel
theorem dX11_copies_43 : decode cX11_copies 43 = .ok (.getfield 162, 3) := by decide +kernel
theorem dX11_copies_46 : decode cX11_copies 46 = .ok (.bipush 6, 2) := by decide +kernel
theorem dX11_copies_48 : decode cX11_copies 48 = .ok (.iload_n 1, 1) := by decide +kernel
theorem dX11_copies_49 : decode cX11_copies 49 = .ok (.imul, 1) := by decide +kernel
theorem dX11_copies_50 : decode cX11_copies 50 = .ok (.iload_n 3, 1) := by decide +kernel
theorem dX11_copies_51 : decode cX11_copies 51 = .ok (.iadd, 1) := by decide +kernel
theorem dX11_copies_52 : decode cX11_copies 52 = .ok (.aload_n 0, 1) := by decide +kernel
theorem dX11_copies_53 : decode cX11_copies 53 = .ok (.getfield 162, 3) := by decide +kernel
theorem dX11_copies_56 : decode cX11_copies 56 = .ok (.bipush 6, 2) := by decide +kernel
theorem dX11_copies_58 : decode cX11_copies 58 = .ok (.iload_n 2, 1) := by decide +kernel
theorem dX11_copies_59 : decode cX11_copies 59 = .ok (.imul, 1) := by decide +kernel
theorem dX11_copies_60 : decode cX11_copies 60 = .ok (.iload_n 3, 1) := by decide +kernel
theorem dX11_copies_61 : decode cX11_copies 61 = .ok (.iadd, 1) := by decide +kernel
theorem dX11_copies_62 : decode cX11_copies 62 = .ok (.iaload, 1) := by decide +kernel
theorem dX11_copies_63 : decode cX11_copies 63 = .ok (.iastore, 1) := by decide +kernel
theorem dX11_copies_64 : decode cX11_copies 64 = .ok (.aload_n 0, 1) := by decide +kernel
theorem dX11_copies_65 : decode cX11_copies 65 = .ok (.getfield 165, 3) := by decide +kernel
theorem dX11_copies_68 : decode cX11_copies 68 = .ok (.bipush 6, 2) := by decide +kernel
theorem dX11_copies_70 : decode cX11_copies 70 = .ok (.iload_n 1, 1) := by decide +kernel
theorem dX11_copies_71 : decode cX11_copies 71 = .ok (.imul, 1) := by decide +kernel
theorem dX11_copies_72 : decode cX11_copies 72 = .ok (.iload_n 3, 1) := by decide +kernel
theorem dX11_copies_73 : decode cX11_copies 73 = .ok (.iadd, 1) := by decide +kernel
theorem dX11_copies_74 : decode cX11_copies 74 = .ok (.aload_n 0, 1) := by decide +kernel
theorem dX11_copies_75 : decode cX11_copies 75 = .ok (.getfield 165, 3) := by decide +kernel
theorem dX11_copies_78 : decode cX11_copies 78 = .ok (.bipush 6, 2) := by decide +kernel
theorem dX11_copies_80 : decode cX11_copies 80 = .ok (.iload_n 2, 1) := by decide +kernel
theorem dX11_copies_81 : decode cX11_copies 81 = .ok (.imul, 1) := by decide +kernel
theorem dX11_copies_82 : decode cX11_copies 82 = .ok (.iload_n 3, 1) := by decide +kernel
theorem dX11_copies_83 : decode cX11_copies 83 = .ok (.iadd, 1) := by decide +kernel
theorem dX11_copies_84 : decode cX11_copies 84 = .ok (.iaload, 1) := by decide +kernel
theorem dX11_copies_85 : decode cX11_copies 85 = .ok (.iastore, 1) := by decide +kernel
theorem dX11_copies_86 : decode cX11_copies 86 = .ok (.iinc 3 1, 3) := by decide +kernel
theorem dX11_copies_89 : decode cX11_copies 89 = .ok (.goto (-75), 3) := by decide +kernel
theorem dX11_copies_92 : decode cX11_copies 92 = .ok (.iconst 0, 1) := by decide +kernel
theorem dX11_copies_93 : decode cX11_copies 93 = .ok (.istore_n 3, 1) := by decide +kernel
theorem dX11_copies_94 : decode cX11_copies 94 = .ok (.iload_n 3, 1) := by decide +kernel
theorem dX11_copies_95 : decode cX11_copies 95 = .ok (.bipush 36, 2) := by decide +kernel
theorem dX11_copies_97 : decode cX11_copies 97 = .ok (.if_icmp .ge 31, 3) := by decide +kernel
theorem dX11_copies_100 : decode cX11_copies 100 = .ok (.aload_n 0, 1) := by decide +kernel
theorem dX11_copies_101 : decode cX11_copies 101 = .ok (.getfield 168, 3) := by decide +kernel
theorem dX11_copies_104 : decode cX11_copies 104 = .ok (.bipush 36, 2) := by decide +kernel
theorem dX11_copies_106 : decode cX11_copies 106 = .ok (.iload_n 1, 1) := by decide +kernel
theorem dX11_copies_107 : decode cX11_copies 107 = .ok (.imul, 1) := by decide +kernel
theorem dX11_copies_108 : decode cX11_copies 108 = .ok (.iload_n 3, 1) := by decide +kernel
theorem dX11_copies_109 : decode cX11_copies 109 = .ok (.iadd, 1) := by decide +kernel
theorem dX11_copies_110 : decode cX11_copies 110 = .ok (.aload_n 0, 1) := by decide +kernel
theorem dX11_copies_111 : decode cX11_copies 111 = .ok (.getfield 168, 3) := by decide +kernel
theorem dX11_copies_114 : decode cX11_copies 114 = .ok (.bipush 36, 2) := by decide +kernel
theorem dX11_copies_116 : decode cX11_copies 116 = .ok (.iload_n 2, 1) := by decide +kernel
theorem dX11_copies_117 : decode cX11_copies 117 = .ok (.imul, 1) := by decide +kernel
theorem dX11_copies_118 : decode cX11_copies 118 = .ok (.iload_n 3, 1) := by decide +kernel
theorem dX11_copies_119 : decode cX11_copies 119 = .ok (.iadd, 1) := by decide +kernel
theorem dX11_copies_120 : decode cX11_copies 120 = .ok (.iaload, 1) := by decide +kernel
theorem dX11_copies_121 : decode cX11_copies 121 = .ok (.iastore, 1) := by decide +kernel
theorem dX11_copies_122 : decode cX11_copies 122 = .ok (.iinc 3 1, 3) := by decide +kernel
theorem dX11_copies_125 : decode cX11_copies 125 = .ok (.goto (-31), 3) := by decide +kernel
theorem dX11_copies_128 : decode cX11_copies 128 = .ok (.aload_n 0, 1) := by decide +kernel
theorem dX11_copies_129 : decode cX11_copies 129 = .ok (.getfield 171, 3) := by decide +kernel
theorem dX11_copies_132 : decode cX11_copies 132 = .ok (.iload_n 1, 1) := by decide +kernel
theorem dX11_copies_133 : decode cX11_copies 133 = .ok (.aload_n 0, 1) := by decide +kernel
theorem dX11_copies_134 : decode cX11_copies 134 = .ok (.getfield 171, 3) := by decide +kernel
theorem dX11_copies_137 : decode cX11_copies 137 = .ok (.iload_n 2, 1) := by decide +kernel
theorem dX11_copies_138 : decode cX11_copies 138 = .ok (.iaload, 1) := by decide +kernel
theorem dX11_copies_139 : decode cX11_copies 139 = .ok (.iastore, 1) := by decide +kernel
theorem dX11_copies_140 : decode cX11_copies 140 = .ok (.iconst 0, 1) := by decide +kernel
theorem dX11_copies_141 : decode cX11_copies 141 = .ok (.istore_n 3, 1) := by decide +kernel
theorem dX11_copies_142 : decode cX11_copies 142 = .ok (.iload_n 3, 1) := by decide +kernel
theorem dX11_copies_143 : decode cX11_copies 143 = .ok (.bipush 48, 2) := by decide +kernel
theorem dX11_copies_145 : decode cX11_copies 145 = .ok (.if_icmp .ge 97, 3) := by decide +kernel
theorem dX11_copies_148 : decode cX11_copies 148 = .ok (.aload_n 0, 1) := by decide +kernel
theorem dX11_copies_149 : decode cX11_copies 149 = .ok (.getfield 174, 3) := by decide +kernel
theorem dX11_copies_152 : decode cX11_copies 152 = .ok (.bipush 48, 2) := by decide +kernel
theorem dX11_copies_154 : decode cX11_copies 154 = .ok (.iload_n 1, 1) := by decide +kernel
theorem dX11_copies_155 : decode cX11_copies 155 = .ok (.imul, 1) := by decide +kernel
theorem dX11_copies_156 : decode cX11_copies 156 = .ok (.iload_n 3, 1) := by decide +kernel
theorem dX11_copies_157 : decode cX11_copies 157 = .ok (.iadd, 1) := by decide +kernel
theorem dX11_copies_158 : decode cX11_copies 158 = .ok (.aload_n 0, 1) := by decide +kernel
theorem dX11_copies_159 : decode cX11_copies 159 = .ok (.getfield 174, 3) := by decide +kernel
theorem dX11_copies_162 : decode cX11_copies 162 = .ok (.bipush 48, 2) := by decide +kernel
theorem dX11_copies_164 : decode cX11_copies 164 = .ok (.iload_n 2, 1) := by decide +kernel
theorem dX11_copies_165 : decode cX11_copies 165 = .ok (.imul, 1) := by decide +kernel
theorem dX11_copies_166 : decode cX11_copies 166 = .ok (.iload_n 3, 1) := by decide +kernel
theorem dX11_copies_167 : decode cX11_copies 167 = .ok (.iadd, 1) := by decide +kernel
theorem dX11_copies_168 : decode cX11_copies 168 = .ok (.iaload, 1) := by decide +kernel
theorem dX11_copies_169 : decode cX11_copies 169 = .ok (.iastore, 1) := by decide +kernel
theorem dX11_copies_170 : decode cX11_copies 170 = .ok (.aload_n 0, 1) := by decide +kernel
theorem dX11_copies_171 : decode cX11_copies 171 = .ok (.getfield 177, 3) := by decide +kernel
theorem dX11_copies_174 : decode cX11_copies 174 = .ok (.bipush 48, 2) := by decide +kernel
theorem dX11_copies_176 : decode cX11_copies 176 = .ok (.iload_n 1, 1) := by decide +kernel
theorem dX11_copies_177 : decode cX11_copies 177 = .ok (.imul, 1) := by decide +kernel
theorem dX11_copies_178 : decode cX11_copies 178 = .ok (.iload_n 3, 1) := by decide +kernel
theorem dX11_copies_179 : decode cX11_copies 179 = .ok (.iadd, 1) := by decide +kernel
theorem dX11_copies_180 : decode cX11_copies 180 = .ok (.aload_n 0, 1) := by decide +kernel
theorem dX11_copies_181 : decode cX11_copies 181 = .ok (.getfield 177, 3) := by decide +kernel
theorem dX11_copies_184 : decode cX11_copies 184 = .ok (.bipush 48, 2) := by decide +kernel
theorem dX11_copies_186 : decode cX11_copies 186 = .ok (.iload_n 2, 1) := by decide +kernel
theorem dX11_copies_187 : decode cX11_copies 187 = .ok (.imul, 1) := by decide +kernel
theorem dX11_copies_188 : decode cX11_copies 188 = .ok (.iload_n 3, 1) := by decide +kernel
theorem dX11_copies_189 : decode cX11_copies 189 = .ok (.iadd, 1) := by decide +kernel
theorem dX11_copies_190 : decode cX11_copies 190 = .ok (.iaload, 1) := by decide +kernel
theorem dX11_copies_191 : decode cX11_copies 191 = .ok (.iastore, 1) := by decide +kernel
theorem dX11_copies_192 : decode cX11_copies 192 = .ok (.aload_n 0, 1) := by decide +kernel
theorem dX11_copies_193 : decode cX11_copies 193 = .ok (.getfield 180, 3) := by decide +kernel
theorem dX11_copies_196 : decode cX11_copies 196 = .ok (.bipush 48, 2) := by decide +kernel
theorem dX11_copies_198 : decode cX11_copies 198 = .ok (.iload_n 1, 1) := by decide +kernel
theorem dX11_copies_199 : decode cX11_copies 199 = .ok (.imul, 1) := by decide +kernel
theorem dX11_copies_200 : decode cX11_copies 200 = .ok (.iload_n 3, 1) := by decide +kernel
theorem dX11_copies_201 : decode cX11_copies 201 = .ok (.iadd, 1) := by decide +kernel
theorem dX11_copies_202 : decode cX11_copies 202 = .ok (.aload_n 0, 1) := by decide +kernel
theorem dX11_copies_203 : decode cX11_copies 203 = .ok (.getfield 180, 3) := by decide +kernel
theorem dX11_copies_206 : decode cX11_copies 206 = .ok (.bipush 48, 2) := by decide +kernel
theorem dX11_copies_208 : decode cX11_copies 208 = .ok (.iload_n 2, 1) := by decide +kernel
theorem dX11_copies_209 : decode cX11_copies 209 = .ok (.imul, 1) := by decide +kernel
theorem dX11_copies_210 : decode cX11_copies 210 = .ok (.iload_n 3, 1) := by decide +kernel
theorem dX11_copies_211 : decode cX11_copies 211 = .ok (.iadd, 1) := by decide +kernel
theorem dX11_copies_212 : decode cX11_copies 212 = .ok (.iaload, 1) := by decide +kernel
theorem dX11_copies_213 : decode cX11_copies 213 = .ok (.iastore, 1) := by decide +kernel
theorem dX11_copies_214 : decode cX11_copies 214 = .ok (.aload_n 0, 1) := by decide +kernel
theorem dX11_copies_215 : decode cX11_copies 215 = .ok (.getfield 183, 3) := by decide +kernel
theorem dX11_copies_218 : decode cX11_copies 218 = .ok (.bipush 48, 2) := by decide +kernel
theorem dX11_copies_220 : decode cX11_copies 220 = .ok (.iload_n 1, 1) := by decide +kernel
theorem dX11_copies_221 : decode cX11_copies 221 = .ok (.imul, 1) := by decide +kernel
theorem dX11_copies_222 : decode cX11_copies 222 = .ok (.iload_n 3, 1) := by decide +kernel
theorem dX11_copies_223 : decode cX11_copies 223 = .ok (.iadd, 1) := by decide +kernel
theorem dX11_copies_224 : decode cX11_copies 224 = .ok (.aload_n 0, 1) := by decide +kernel
theorem dX11_copies_225 : decode cX11_copies 225 = .ok (.getfield 183, 3) := by decide +kernel
theorem dX11_copies_228 : decode cX11_copies 228 = .ok (.bipush 48, 2) := by decide +kernel
theorem dX11_copies_230 : decode cX11_copies 230 = .ok (.iload_n 2, 1) := by decide +kernel
theorem dX11_copies_231 : decode cX11_copies 231 = .ok (.imul, 1) := by decide +kernel
theorem dX11_copies_232 : decode cX11_copies 232 = .ok (.iload_n 3, 1) := by decide +kernel
theorem dX11_copies_233 : decode cX11_copies 233 = .ok (.iadd, 1) := by decide +kernel
theorem dX11_copies_234 : decode cX11_copies 234 = .ok (.iaload, 1) := by decide +kernel
theorem dX11_copies_235 : decode cX11_copies 235 = .ok (.iastore, 1) := by decide +kernel
theorem dX11_copies_236 : decode cX11_copies 236 = .ok (.iinc 3 1, 3) := by decide +kernel
theorem dX11_copies_239 : decode cX11_copies 239 = .ok (.goto (-97), 3) := by decide +kernel
theorem dX11_copies_242 : decode cX11_copies 242 = .ok (.return_, 1) := by decide +kernel
def fX11_copies_142 : Nat → Int32 → Int32 → Int32 → zS → Option zS
  | 0, _, _, _, _ => none
  | f + 1, x1, x2, x3, σ => if 48 ≤ x3 then some σ else aI σ 91 1056 ((48 * x2) + x3) fun v5 => wI σ 91 1056 ((48 * x1) + x3) v5 fun σ6 => aI σ6 92 1056 ((48 * x2) + x3) fun v7 => wI σ6 92 1056 ((48 * x1) + x3) v7 fun σ8 => aI σ8 93 1056 ((48 * x2) + x3) fun v9 => wI σ8 93 1056 ((48 * x1) + x3) v9 fun σ10 => aI σ10 94 1056 ((48 * x2) + x3) fun v11 => wI σ10 94 1056 ((48 * x1) + x3) v11 fun σ12 => fX11_copies_142 f x1 x2 (x3 + 1) σ12
theorem kX11_copies_142 {sc : Nat × (Nat → Int32)} : ∀ (fuel : Nat) (x1 : Int32) (x2 : Int32) (x3 : Int32) (σ : zS) (w : zS) (h : fX11_copies_142 fuel x1 x2 x3 σ = some w), zR (zY0 sc) 1 0 0 mX11_copies 142 [(0, .ref 56), (1, .int x1), (2, .int x2), (3, .int x3)] [] (zE σ) (none, zE w) := by
  intro fuel
  induction fuel with
  | zero => intro x1 x2 x3 σ w h; exact nomatch h
  | succ f ih =>
    intro x1 x2 x3 σ w h
    rw [fX11_copies_142] at h
    refine kR.iload_n dX11_copies_142 3 rfl ?_
    refine zR.bipush (v := 48) dX11_copies_143 (by decide) ?_
    refine kR.icmp_ge (tgt := 242) dX11_copies_145 (by decide) h (fun h => ?_) (fun h => ?_)
    · exact kR.vret dX11_copies_242 h
    · refine kR.aload_n dX11_copies_148 0 rfl ?_
      refine kR.getR (v := 91) dX11_copies_149 flX11_174 zcf11 zp56 (Or.inr ⟨_, rfl⟩) rfl ?_
      refine zR.bipush (v := 48) dX11_copies_152 (by decide) ?_
      refine kR.iload_n dX11_copies_154 1 rfl ?_
      refine zR.imul dX11_copies_155 ?_
      refine kR.iload_n dX11_copies_156 3 rfl ?_
      refine zR.iadd dX11_copies_157 ?_
      refine kR.aload_n dX11_copies_158 0 rfl ?_
      refine kR.getR (v := 91) dX11_copies_159 flX11_174 zcf11 zp56 (Or.inr ⟨_, rfl⟩) rfl ?_
      refine zR.bipush (v := 48) dX11_copies_162 (by decide) ?_
      refine kR.iload_n dX11_copies_164 2 rfl ?_
      refine zR.imul dX11_copies_165 ?_
      refine kR.iload_n dX11_copies_166 3 rfl ?_
      refine zR.iadd dX11_copies_167 ?_
      refine kR.iald dX11_copies_168 zp91 rfl h (fun v5 h => ?_)
      refine kR.iast dX11_copies_169 zp91 rfl h (fun σ6 h => ?_)
      refine kR.aload_n dX11_copies_170 0 rfl ?_
      refine kR.getR (v := 92) dX11_copies_171 flX11_177 zcf11 zp56 (Or.inr ⟨_, rfl⟩) rfl ?_
      refine zR.bipush (v := 48) dX11_copies_174 (by decide) ?_
      refine kR.iload_n dX11_copies_176 1 rfl ?_
      refine zR.imul dX11_copies_177 ?_
      refine kR.iload_n dX11_copies_178 3 rfl ?_
      refine zR.iadd dX11_copies_179 ?_
      refine kR.aload_n dX11_copies_180 0 rfl ?_
      refine kR.getR (v := 92) dX11_copies_181 flX11_177 zcf11 zp56 (Or.inr ⟨_, rfl⟩) rfl ?_
      refine zR.bipush (v := 48) dX11_copies_184 (by decide) ?_
      refine kR.iload_n dX11_copies_186 2 rfl ?_
      refine zR.imul dX11_copies_187 ?_
      refine kR.iload_n dX11_copies_188 3 rfl ?_
      refine zR.iadd dX11_copies_189 ?_
      refine kR.iald dX11_copies_190 zp92 rfl h (fun v7 h => ?_)
      refine kR.iast dX11_copies_191 zp92 rfl h (fun σ8 h => ?_)
      refine kR.aload_n dX11_copies_192 0 rfl ?_
      refine kR.getR (v := 93) dX11_copies_193 flX11_180 zcf11 zp56 (Or.inr ⟨_, rfl⟩) rfl ?_
      refine zR.bipush (v := 48) dX11_copies_196 (by decide) ?_
      refine kR.iload_n dX11_copies_198 1 rfl ?_
      refine zR.imul dX11_copies_199 ?_
      refine kR.iload_n dX11_copies_200 3 rfl ?_
      refine zR.iadd dX11_copies_201 ?_
      refine kR.aload_n dX11_copies_202 0 rfl ?_
      refine kR.getR (v := 93) dX11_copies_203 flX11_180 zcf11 zp56 (Or.inr ⟨_, rfl⟩) rfl ?_
      refine zR.bipush (v := 48) dX11_copies_206 (by decide) ?_
      refine kR.iload_n dX11_copies_208 2 rfl ?_
      refine zR.imul dX11_copies_209 ?_
      refine kR.iload_n dX11_copies_210 3 rfl ?_
      refine zR.iadd dX11_copies_211 ?_
      refine kR.iald dX11_copies_212 zp93 rfl h (fun v9 h => ?_)
      refine kR.iast dX11_copies_213 zp93 rfl h (fun σ10 h => ?_)
      refine kR.aload_n dX11_copies_214 0 rfl ?_
      refine kR.getR (v := 94) dX11_copies_215 flX11_183 zcf11 zp56 (Or.inr ⟨_, rfl⟩) rfl ?_
      refine zR.bipush (v := 48) dX11_copies_218 (by decide) ?_
      refine kR.iload_n dX11_copies_220 1 rfl ?_
      refine zR.imul dX11_copies_221 ?_
      refine kR.iload_n dX11_copies_222 3 rfl ?_
      refine zR.iadd dX11_copies_223 ?_
      refine kR.aload_n dX11_copies_224 0 rfl ?_
      refine kR.getR (v := 94) dX11_copies_225 flX11_183 zcf11 zp56 (Or.inr ⟨_, rfl⟩) rfl ?_
      refine zR.bipush (v := 48) dX11_copies_228 (by decide) ?_
      refine kR.iload_n dX11_copies_230 2 rfl ?_
      refine zR.imul dX11_copies_231 ?_
      refine kR.iload_n dX11_copies_232 3 rfl ?_
      refine zR.iadd dX11_copies_233 ?_
      refine kR.iald dX11_copies_234 zp94 rfl h (fun v11 h => ?_)
      refine kR.iast dX11_copies_235 zp94 rfl h (fun σ12 h => ?_)
      refine zR.iinc 3 (v := x3 + 1) (ls' := [(3, .int (x3 + 1)), (0, .ref 56), (1, .int x1), (2, .int x2)]) dX11_copies_236 rfl rfl (by decide) rfl ?_
      refine zR.goto (tgt := 142) dX11_copies_239 (by decide) ?_
      refine zR.sub [1, 2, 3, 0] rfl ?_
      exact ih _ _ _ _ _ h
def fX11_copies_94 : Nat → Int32 → Int32 → Int32 → zS → Option zS
  | 0, _, _, _, _ => none
  | f + 1, x1, x2, x3, σ => if 36 ≤ x3 then aI σ 90 22 x2 fun v3 => wI σ 90 22 x1 v3 fun σ4 => fX11_copies_142 zF x1 x2 0 σ4 else aI σ 89 792 ((36 * x2) + x3) fun v13 => wI σ 89 792 ((36 * x1) + x3) v13 fun σ14 => fX11_copies_94 f x1 x2 (x3 + 1) σ14
theorem kX11_copies_94 {sc : Nat × (Nat → Int32)} : ∀ (fuel : Nat) (x1 : Int32) (x2 : Int32) (x3 : Int32) (σ : zS) (w : zS) (h : fX11_copies_94 fuel x1 x2 x3 σ = some w), zR (zY0 sc) 1 0 0 mX11_copies 94 [(0, .ref 56), (1, .int x1), (2, .int x2), (3, .int x3)] [] (zE σ) (none, zE w) := by
  intro fuel
  induction fuel with
  | zero => intro x1 x2 x3 σ w h; exact nomatch h
  | succ f ih =>
    intro x1 x2 x3 σ w h
    rw [fX11_copies_94] at h
    refine kR.iload_n dX11_copies_94 3 rfl ?_
    refine zR.bipush (v := 36) dX11_copies_95 (by decide) ?_
    refine kR.icmp_ge (tgt := 128) dX11_copies_97 (by decide) h (fun h => ?_) (fun h => ?_)
    · refine kR.aload_n dX11_copies_128 0 rfl ?_
      refine kR.getR (v := 90) dX11_copies_129 flX11_171 zcf11 zp56 (Or.inr ⟨_, rfl⟩) rfl ?_
      refine kR.iload_n dX11_copies_132 1 rfl ?_
      refine kR.aload_n dX11_copies_133 0 rfl ?_
      refine kR.getR (v := 90) dX11_copies_134 flX11_171 zcf11 zp56 (Or.inr ⟨_, rfl⟩) rfl ?_
      refine kR.iload_n dX11_copies_137 2 rfl ?_
      refine kR.iald dX11_copies_138 zp90 rfl h (fun v3 h => ?_)
      refine kR.iast dX11_copies_139 zp90 rfl h (fun σ4 h => ?_)
      refine zR.iconst (v := 0) dX11_copies_140 (by decide) ?_
      refine zR.istore_n (i := 3) (ls' := [(3, .int 0), (0, .ref 56), (1, .int x1), (2, .int x2)]) dX11_copies_141 rfl (by decide) rfl ?_
      refine zR.sub [1, 2, 3, 0] rfl ?_
      exact kX11_copies_142 zF _ _ _ _ _ h
    · refine kR.aload_n dX11_copies_100 0 rfl ?_
      refine kR.getR (v := 89) dX11_copies_101 flX11_168 zcf11 zp56 (Or.inr ⟨_, rfl⟩) rfl ?_
      refine zR.bipush (v := 36) dX11_copies_104 (by decide) ?_
      refine kR.iload_n dX11_copies_106 1 rfl ?_
      refine zR.imul dX11_copies_107 ?_
      refine kR.iload_n dX11_copies_108 3 rfl ?_
      refine zR.iadd dX11_copies_109 ?_
      refine kR.aload_n dX11_copies_110 0 rfl ?_
      refine kR.getR (v := 89) dX11_copies_111 flX11_168 zcf11 zp56 (Or.inr ⟨_, rfl⟩) rfl ?_
      refine zR.bipush (v := 36) dX11_copies_114 (by decide) ?_
      refine kR.iload_n dX11_copies_116 2 rfl ?_
      refine zR.imul dX11_copies_117 ?_
      refine kR.iload_n dX11_copies_118 3 rfl ?_
      refine zR.iadd dX11_copies_119 ?_
      refine kR.iald dX11_copies_120 zp89 rfl h (fun v13 h => ?_)
      refine kR.iast dX11_copies_121 zp89 rfl h (fun σ14 h => ?_)
      refine zR.iinc 3 (v := x3 + 1) (ls' := [(3, .int (x3 + 1)), (0, .ref 56), (1, .int x1), (2, .int x2)]) dX11_copies_122 rfl rfl (by decide) rfl ?_
      refine zR.goto (tgt := 94) dX11_copies_125 (by decide) ?_
      refine zR.sub [1, 2, 3, 0] rfl ?_
      exact ih _ _ _ _ _ h
def fX11_copies_14 : Nat → Int32 → Int32 → Int32 → zS → Option zS
  | 0, _, _, _, _ => none
  | f + 1, x1, x2, x3, σ => if 6 ≤ x3 then fX11_copies_94 zF x1 x2 0 σ else aI σ 86 132 ((6 * x2) + x3) fun v15 => wI σ 86 132 ((6 * x1) + x3) v15 fun σ16 => aI σ16 87 132 ((6 * x2) + x3) fun v17 => wI σ16 87 132 ((6 * x1) + x3) v17 fun σ18 => aI σ18 88 132 ((6 * x2) + x3) fun v19 => wI σ18 88 132 ((6 * x1) + x3) v19 fun σ20 => fX11_copies_14 f x1 x2 (x3 + 1) σ20
theorem kX11_copies_14 {sc : Nat × (Nat → Int32)} : ∀ (fuel : Nat) (x1 : Int32) (x2 : Int32) (x3 : Int32) (σ : zS) (w : zS) (h : fX11_copies_14 fuel x1 x2 x3 σ = some w), zR (zY0 sc) 1 0 0 mX11_copies 14 [(0, .ref 56), (1, .int x1), (2, .int x2), (3, .int x3)] [] (zE σ) (none, zE w) := by
  intro fuel
  induction fuel with
  | zero => intro x1 x2 x3 σ w h; exact nomatch h
  | succ f ih =>
    intro x1 x2 x3 σ w h
    rw [fX11_copies_14] at h
    refine kR.iload_n dX11_copies_14 3 rfl ?_
    refine zR.bipush (v := 6) dX11_copies_15 (by decide) ?_
    refine kR.icmp_ge (tgt := 92) dX11_copies_17 (by decide) h (fun h => ?_) (fun h => ?_)
    · refine zR.iconst (v := 0) dX11_copies_92 (by decide) ?_
      refine zR.istore_n (i := 3) (ls' := [(3, .int 0), (0, .ref 56), (1, .int x1), (2, .int x2)]) dX11_copies_93 rfl (by decide) rfl ?_
      refine zR.sub [1, 2, 3, 0] rfl ?_
      exact kX11_copies_94 zF _ _ _ _ _ h
    · refine kR.aload_n dX11_copies_20 0 rfl ?_
      refine kR.getR (v := 86) dX11_copies_21 flX11_159 zcf11 zp56 (Or.inr ⟨_, rfl⟩) rfl ?_
      refine zR.bipush (v := 6) dX11_copies_24 (by decide) ?_
      refine kR.iload_n dX11_copies_26 1 rfl ?_
      refine zR.imul dX11_copies_27 ?_
      refine kR.iload_n dX11_copies_28 3 rfl ?_
      refine zR.iadd dX11_copies_29 ?_
      refine kR.aload_n dX11_copies_30 0 rfl ?_
      refine kR.getR (v := 86) dX11_copies_31 flX11_159 zcf11 zp56 (Or.inr ⟨_, rfl⟩) rfl ?_
      refine zR.bipush (v := 6) dX11_copies_34 (by decide) ?_
      refine kR.iload_n dX11_copies_36 2 rfl ?_
      refine zR.imul dX11_copies_37 ?_
      refine kR.iload_n dX11_copies_38 3 rfl ?_
      refine zR.iadd dX11_copies_39 ?_
      refine kR.iald dX11_copies_40 zp86 rfl h (fun v15 h => ?_)
      refine kR.iast dX11_copies_41 zp86 rfl h (fun σ16 h => ?_)
      refine kR.aload_n dX11_copies_42 0 rfl ?_
      refine kR.getR (v := 87) dX11_copies_43 flX11_162 zcf11 zp56 (Or.inr ⟨_, rfl⟩) rfl ?_
      refine zR.bipush (v := 6) dX11_copies_46 (by decide) ?_
      refine kR.iload_n dX11_copies_48 1 rfl ?_
      refine zR.imul dX11_copies_49 ?_
      refine kR.iload_n dX11_copies_50 3 rfl ?_
      refine zR.iadd dX11_copies_51 ?_
      refine kR.aload_n dX11_copies_52 0 rfl ?_
      refine kR.getR (v := 87) dX11_copies_53 flX11_162 zcf11 zp56 (Or.inr ⟨_, rfl⟩) rfl ?_
      refine zR.bipush (v := 6) dX11_copies_56 (by decide) ?_
      refine kR.iload_n dX11_copies_58 2 rfl ?_
      refine zR.imul dX11_copies_59 ?_
      refine kR.iload_n dX11_copies_60 3 rfl ?_
      refine zR.iadd dX11_copies_61 ?_
      refine kR.iald dX11_copies_62 zp87 rfl h (fun v17 h => ?_)
      refine kR.iast dX11_copies_63 zp87 rfl h (fun σ18 h => ?_)
      refine kR.aload_n dX11_copies_64 0 rfl ?_
      refine kR.getR (v := 88) dX11_copies_65 flX11_165 zcf11 zp56 (Or.inr ⟨_, rfl⟩) rfl ?_
      refine zR.bipush (v := 6) dX11_copies_68 (by decide) ?_
      refine kR.iload_n dX11_copies_70 1 rfl ?_
      refine zR.imul dX11_copies_71 ?_
      refine kR.iload_n dX11_copies_72 3 rfl ?_
      refine zR.iadd dX11_copies_73 ?_
      refine kR.aload_n dX11_copies_74 0 rfl ?_
      refine kR.getR (v := 88) dX11_copies_75 flX11_165 zcf11 zp56 (Or.inr ⟨_, rfl⟩) rfl ?_
      refine zR.bipush (v := 6) dX11_copies_78 (by decide) ?_
      refine kR.iload_n dX11_copies_80 2 rfl ?_
      refine zR.imul dX11_copies_81 ?_
      refine kR.iload_n dX11_copies_82 3 rfl ?_
      refine zR.iadd dX11_copies_83 ?_
      refine kR.iald dX11_copies_84 zp88 rfl h (fun v19 h => ?_)
      refine kR.iast dX11_copies_85 zp88 rfl h (fun σ20 h => ?_)
      refine zR.iinc 3 (v := x3 + 1) (ls' := [(3, .int (x3 + 1)), (0, .ref 56), (1, .int x1), (2, .int x2)]) dX11_copies_86 rfl rfl (by decide) rfl ?_
      refine zR.goto (tgt := 14) dX11_copies_89 (by decide) ?_
      refine zR.sub [1, 2, 3, 0] rfl ?_
      exact ih _ _ _ _ _ h
def fX11_copies (p1 : Int32) (p2 : Int32) (σ : zS) : Option zS := aI σ 85 22 p2 fun v1 => wI σ 85 22 p1 v1 fun σ2 => fX11_copies_14 zF p1 p2 0 σ2
theorem eX11_copies {sc : Nat × (Nat → Int32)} (p1 : Int32) (p2 : Int32) (σ : zS) (w : zS) (h : fX11_copies p1 p2 σ = some w) : zR (zY0 sc) 1 0 0 mX11_copies 0 [(0, .ref 56), (1, .int p1), (2, .int p2)] [] (zE σ) (none, zE w) := by
  unfold fX11_copies at h
  refine kR.aload_n dX11_copies_0 0 rfl ?_
  refine kR.getR (v := 85) dX11_copies_1 flX11_156 zcf11 zp56 (Or.inr ⟨_, rfl⟩) rfl ?_
  refine kR.iload_n dX11_copies_4 1 rfl ?_
  refine kR.aload_n dX11_copies_5 0 rfl ?_
  refine kR.getR (v := 85) dX11_copies_6 flX11_156 zcf11 zp56 (Or.inr ⟨_, rfl⟩) rfl ?_
  refine kR.iload_n dX11_copies_9 2 rfl ?_
  refine kR.iald dX11_copies_10 zp85 rfl h (fun v1 h => ?_)
  refine kR.iast dX11_copies_11 zp85 rfl h (fun σ2 h => ?_)
  refine zR.iconst (v := 0) dX11_copies_12 (by decide) ?_
  refine zR.istore_n (i := 3) (ls' := [(3, .int 0), (0, .ref 56), (1, .int p1), (2, .int p2)]) dX11_copies_13 rfl (by decide) rfl ?_
  refine zR.sub [1, 2, 3, 0] rfl ?_
  exact kX11_copies_14 zF _ _ _ _ _ h
theorem lX11_copies {sc : Nat × (Nat → Int32)} (p1 : Int32) (p2 : Int32) (σ : zS) (w : zS) (h : fX11_copies p1 p2 σ = some w) : zC (zY0 sc) 1 0 0 mX11_copies [.ref 56, .int p1, .int p2] (zE σ) (none, zE w) := zC.of (by decide +kernel) (Nat.le_of_ble_eq_true rfl) rfl (eX11_copies p1 p2 σ w h)
theorem dX11_ring_0 : decode cX11_ring 0 = .ok (.iconst 2, 1) := by decide +kernel
theorem dX11_ring_1 : decode cX11_ring 1 = .ok (.aload_n 0, 1) := by decide +kernel
theorem dX11_ring_2 : decode cX11_ring 2 = .ok (.getfield 186, 3) := by decide +kernel
theorem dX11_ring_5 : decode cX11_ring 5 = .ok (.iload_n 1, 1) := by decide +kernel
theorem dX11_ring_6 : decode cX11_ring 6 = .ok (.iadd, 1) := by decide +kernel
theorem dX11_ring_7 : decode cX11_ring 7 = .ok (.bipush 20, 2) := by decide +kernel
theorem dX11_ring_9 : decode cX11_ring 9 = .ok (.irem, 1) := by decide +kernel
theorem dX11_ring_10 : decode cX11_ring 10 = .ok (.iadd, 1) := by decide +kernel
theorem dX11_ring_11 : decode cX11_ring 11 = .ok (.ireturn, 1) := by decide +kernel
def fX11_ring (σ : zS) (p1 : Int32) : Int32 := 2 + (((iG σ 56 57) + p1) - ((iG σ 56 57) + p1) / 20 * 20)
theorem eX11_ring {sc : Nat × (Nat → Int32)} (σ : zS) (p1 : Int32) (w : Int32) (h : fX11_ring σ p1 = w) : zR (zY0 sc) 1 0 0 mX11_ring 0 [(0, .ref 56), (1, .int p1)] [] (zE σ) (some (.int w), zE σ) := by
  unfold fX11_ring at h
  refine zR.iconst (v := 2) dX11_ring_0 (by decide) ?_
  refine kR.aload_n dX11_ring_1 0 rfl ?_
  refine kR.getI dX11_ring_2 flX11_186 zcf11 zp56 (Or.inl rfl) ?_
  refine kR.iload_n dX11_ring_5 1 rfl ?_
  refine zR.iadd dX11_ring_6 ?_
  refine zR.bipush (v := 20) dX11_ring_7 (by decide) ?_
  refine zR.irem dX11_ring_9 (by decide) ?_
  refine zR.iadd dX11_ring_10 ?_
  exact kR.iret dX11_ring_11 (nzI rfl _) h
theorem lX11_ring {sc : Nat × (Nat → Int32)} (σ : zS) (p1 : Int32) : zC (zY0 sc) 1 0 0 mX11_ring [.ref 56, .int p1] (zE σ) (some (.int (fX11_ring σ p1)), zE σ) := zC.of (by decide +kernel) (Nat.le_of_ble_eq_true rfl) ⟨_, rfl⟩ (eX11_ring σ p1 _ rfl)
theorem dX11_keeps_0 : decode cX11_keeps 0 = .ok (.aload_n 0, 1) := by decide +kernel
theorem dX11_keeps_1 : decode cX11_keeps 1 = .ok (.getfield 189, 3) := by decide +kernel
theorem dX11_keeps_4 : decode cX11_keeps 4 = .ok (.bipush 20, 2) := by decide +kernel
theorem dX11_keeps_6 : decode cX11_keeps 6 = .ok (.if_icmp .ne 26, 3) := by decide +kernel
theorem dX11_keeps_9 : decode cX11_keeps 9 = .ok (.aload_n 0, 1) := by decide +kernel
theorem dX11_keeps_10 : decode cX11_keeps 10 = .ok (.aload_n 0, 1) := by decide +kernel
theorem dX11_keeps_11 : decode cX11_keeps 11 = .ok (.getfield 186, 3) := by decide +kernel
theorem dX11_keeps_14 : decode cX11_keeps 14 = .ok (.iconst 1, 1) := by decide +kernel
theorem dX11_keeps_15 : decode cX11_keeps 15 = .ok (.iadd, 1) := by decide +kernel
theorem dX11_keeps_16 : decode cX11_keeps 16 = .ok (.bipush 20, 2) := by decide +kernel
theorem dX11_keeps_18 : decode cX11_keeps 18 = .ok (.irem, 1) := by decide +kernel
theorem dX11_keeps_19 : decode cX11_keeps 19 = .ok (.putfield 186, 3) := by decide +kernel
theorem dX11_keeps_22 : decode cX11_keeps 22 = .ok (.aload_n 0, 1) := by decide +kernel
theorem dX11_keeps_23 : decode cX11_keeps 23 = .ok (.dup, 1) := by decide +kernel
theorem dX11_keeps_24 : decode cX11_keeps 24 = .ok (.getfield 189, 3) := by decide +kernel
theorem dX11_keeps_27 : decode cX11_keeps 27 = .ok (.iconst 1, 1) := by decide +kernel
theorem dX11_keeps_28 : decode cX11_keeps 28 = .ok (.isub, 1) := by decide +kernel
theorem dX11_keeps_29 : decode cX11_keeps 29 = .ok (.putfield 189, 3) := by decide +kernel
theorem dX11_keeps_32 : decode cX11_keeps 32 = .ok (.aload_n 0, 1) := by decide +kernel
theorem dX11_keeps_33 : decode cX11_keeps 33 = .ok (.aload_n 0, 1) := by decide +kernel
theorem dX11_keeps_34 : decode cX11_keeps 34 = .ok (.aload_n 0, 1) := by decide +kernel
theorem dX11_keeps_35 : decode cX11_keeps 35 = .ok (.getfield 189, 3) := by decide +kernel
theorem dX11_keeps_38 : decode cX11_keeps 38 = .ok (.invokevirtual 443, 3) := by decide +kernel
theorem dX11_keeps_41 : decode cX11_keeps 41 = .ok (.iconst 0, 1) := by decide +kernel
theorem dX11_keeps_42 : decode cX11_keeps 42 = .ok (.invokevirtual 446, 3) := by decide +kernel
theorem dX11_keeps_45 : decode cX11_keeps 45 = .ok (.aload_n 0, 1) := by decide +kernel
theorem dX11_keeps_46 : decode cX11_keeps 46 = .ok (.dup, 1) := by decide +kernel
theorem dX11_keeps_47 : decode cX11_keeps 47 = .ok (.getfield 189, 3) := by decide +kernel
theorem dX11_keeps_50 : decode cX11_keeps 50 = .ok (.iconst 1, 1) := by decide +kernel
theorem dX11_keeps_51 : decode cX11_keeps 51 = .ok (.iadd, 1) := by decide +kernel
theorem dX11_keeps_52 : decode cX11_keeps 52 = .ok (.putfield 189, 3) := by decide +kernel
theorem dX11_keeps_55 : decode cX11_keeps 55 = .ok (.return_, 1) := by decide +kernel
def fX11_keeps_32 (σ : zS) : Option zS := bnr (fX11_copies (fX11_ring σ (iG σ 56 58)) 0 σ) fun σ1 => bnd (iS σ1 56 58 ((iG σ1 56 58) + 1)) fun σ3 => some σ3
theorem kX11_keeps_32 {sc : Nat × (Nat → Int32)} (σ : zS) (w : zS) (h : fX11_keeps_32 σ = some w) : zR (zY0 sc) 2 0 0 mX11_keeps 32 [(0, .ref 56)] [] (zE σ) (none, zE w) := by
  unfold fX11_keeps_32 at h
  refine kR.aload_n dX11_keeps_32 0 rfl ?_
  refine kR.aload_n dX11_keeps_33 0 rfl ?_
  refine kR.aload_n dX11_keeps_34 0 rfl ?_
  refine kR.getI dX11_keeps_35 flX11_189 zcf11 zp56 (Or.inl rfl) ?_
  refine kR.cVi [.int (iG σ 56 58)] dX11_keeps_38 rfl (by decide) mwX11_443 zp56 (by decide) rfl rfl (Nat.le_of_ble_eq_true rfl) (lX11_ring σ (iG σ 56 58)) ?_
  refine zR.iconst (v := 0) dX11_keeps_41 (by decide) ?_
  obtain ⟨σ1, e2, h⟩ := bnr_some h
  refine kR.cVv [.int (fX11_ring σ (iG σ 56 58)), .int 0] dX11_keeps_42 rfl (by decide) mwX11_446 zp56 (by decide) rfl rfl (Nat.le_of_ble_eq_true rfl) (lX11_copies (fX11_ring σ (iG σ 56 58)) 0 σ _ e2) ?_
  refine kR.aload_n dX11_keeps_45 0 rfl ?_
  refine zR.dup dX11_keeps_46 rfl ?_
  refine kR.getI dX11_keeps_47 flX11_189 zcf11 zp56 (Or.inl rfl) ?_
  refine zR.iconst (v := 1) dX11_keeps_50 (by decide) ?_
  refine zR.iadd dX11_keeps_51 ?_
  refine kR.putI dX11_keeps_52 fpX11_189 zcf11 zp56 rfl h (fun σ3 h => ?_)
  exact kR.vret dX11_keeps_55 h
def fX11_keeps (σ : zS) : Option zS := if (iG σ 56 58) = 20 then bnd (iS σ 56 57 (((iG σ 56 57) + 1) - ((iG σ 56 57) + 1) / 20 * 20)) fun σ4 => bnd (iS σ4 56 58 ((iG σ4 56 58) - 1)) fun σ5 => fX11_keeps_32 σ5 else fX11_keeps_32 σ
theorem eX11_keeps {sc : Nat × (Nat → Int32)} (σ : zS) (w : zS) (h : fX11_keeps σ = some w) : zR (zY0 sc) 2 0 0 mX11_keeps 0 [(0, .ref 56)] [] (zE σ) (none, zE w) := by
  unfold fX11_keeps at h
  refine kR.aload_n dX11_keeps_0 0 rfl ?_
  refine kR.getI dX11_keeps_1 flX11_189 zcf11 zp56 (Or.inl rfl) ?_
  refine zR.bipush (v := 20) dX11_keeps_4 (by decide) ?_
  refine kR.icmp_ne (tgt := 32) dX11_keeps_6 (by decide) h (fun h => ?_) (fun h => ?_)
  · exact kX11_keeps_32 _ _ h
  · refine kR.aload_n dX11_keeps_9 0 rfl ?_
    refine kR.aload_n dX11_keeps_10 0 rfl ?_
    refine kR.getI dX11_keeps_11 flX11_186 zcf11 zp56 (Or.inl rfl) ?_
    refine zR.iconst (v := 1) dX11_keeps_14 (by decide) ?_
    refine zR.iadd dX11_keeps_15 ?_
    refine zR.bipush (v := 20) dX11_keeps_16 (by decide) ?_
    refine zR.irem dX11_keeps_18 (by decide) ?_
    refine kR.putI dX11_keeps_19 fpX11_186 zcf11 zp56 rfl h (fun σ4 h => ?_)
    refine kR.aload_n dX11_keeps_22 0 rfl ?_
    refine zR.dup dX11_keeps_23 rfl ?_
    refine kR.getI dX11_keeps_24 flX11_189 zcf11 zp56 (Or.inl rfl) ?_
    refine zR.iconst (v := 1) dX11_keeps_27 (by decide) ?_
    refine zR.isub dX11_keeps_28 ?_
    refine kR.putI dX11_keeps_29 fpX11_189 zcf11 zp56 rfl h (fun σ5 h => ?_)
    exact kX11_keeps_32 _ _ h
theorem lX11_keeps {sc : Nat × (Nat → Int32)} (σ : zS) (w : zS) (h : fX11_keeps σ = some w) : zC (zY0 sc) 2 0 0 mX11_keeps [.ref 56] (zE σ) (none, zE w) := zC.of (by decide +kernel) (Nat.le_of_ble_eq_true rfl) rfl (eX11_keeps σ w h)
theorem dX11_undo_0 : decode cX11_undo 0 = .ok (.aload_n 0, 1) := by decide +kernel
theorem dX11_undo_1 : decode cX11_undo 1 = .ok (.getfield 189, 3) := by decide +kernel
theorem dX11_undo_4 : decode cX11_undo 4 = .ok (.ifCond .ne 17, 3) := by decide +kernel
theorem dX11_undo_7 : decode cX11_undo 7 = .ok (.aload_n 0, 1) := by decide +kernel
theorem dX11_undo_8 : decode cX11_undo 8 = .ok (.iconst 3, 1) := by decide +kernel
theorem dX11_undo_9 : decode cX11_undo 9 = .ok (.invokevirtual 252, 3) := by decide +kernel
theorem dX11_undo_12 : decode cX11_undo 12 = .ok (.ifCond .lt 7, 3) := by decide +kernel
theorem dX11_undo_15 : decode cX11_undo 15 = .ok (.iconst 1, 1) := by decide +kernel
theorem dX11_undo_16 : decode cX11_undo 16 = .ok (.goto 4, 3) := by decide +kernel
theorem dX11_undo_19 : decode cX11_undo 19 = .ok (.iconst 0, 1) := by decide +kernel
theorem dX11_undo_20 : decode cX11_undo 20 = .ok (.ireturn, 1) := by decide +kernel
theorem dX11_undo_21 : decode cX11_undo 21 = .ok (.aload_n 0, 1) := by decide +kernel
theorem dX11_undo_22 : decode cX11_undo 22 = .ok (.dup, 1) := by decide +kernel
theorem dX11_undo_23 : decode cX11_undo 23 = .ok (.getfield 189, 3) := by decide +kernel
theorem dX11_undo_26 : decode cX11_undo 26 = .ok (.iconst 1, 1) := by decide +kernel
theorem dX11_undo_27 : decode cX11_undo 27 = .ok (.isub, 1) := by decide +kernel
theorem dX11_undo_28 : decode cX11_undo 28 = .ok (.putfield 189, 3) := by decide +kernel
theorem dX11_undo_31 : decode cX11_undo 31 = .ok (.aload_n 0, 1) := by decide +kernel
theorem dX11_undo_32 : decode cX11_undo 32 = .ok (.iconst 0, 1) := by decide +kernel
theorem dX11_undo_33 : decode cX11_undo 33 = .ok (.aload_n 0, 1) := by decide +kernel
theorem dX11_undo_34 : decode cX11_undo 34 = .ok (.aload_n 0, 1) := by decide +kernel
theorem dX11_undo_35 : decode cX11_undo 35 = .ok (.getfield 189, 3) := by decide +kernel
theorem dX11_undo_38 : decode cX11_undo 38 = .ok (.invokevirtual 443, 3) := by decide +kernel
theorem dX11_undo_41 : decode cX11_undo 41 = .ok (.invokevirtual 446, 3) := by decide +kernel
theorem dX11_undo_44 : decode cX11_undo 44 = .ok (.iconst 1, 1) := by decide +kernel
theorem dX11_undo_45 : decode cX11_undo 45 = .ok (.ireturn, 1) := by decide +kernel
def fX11_undo (σ : zS) : Option (Int32 × zS) := if (iG σ 56 58) = 0 then bnc (fX11_refuses 3 σ) fun v6 σ4 => if v6 < 0 then some (0, σ4) else some (1, σ4) else bnd (iS σ 56 58 ((iG σ 56 58) - 1)) fun σ1 => bnr (fX11_copies 0 (fX11_ring σ1 (iG σ1 56 58)) σ1) fun σ2 => some (1, σ2)
theorem eX11_undo {sc : Nat × (Nat → Int32)} (σ : zS) (w : Int32 × zS) (h : fX11_undo σ = some w) : zR (zY0 sc) 2 0 0 mX11_undo 0 [(0, .ref 56)] [] (zE σ) (some (.int w.1), zE w.2) := by
  unfold fX11_undo at h
  refine kR.aload_n dX11_undo_0 0 rfl ?_
  refine kR.getI dX11_undo_1 flX11_189 zcf11 zp56 (Or.inl rfl) ?_
  refine kR.if_ne (tgt := 21) dX11_undo_4 (by decide) h (fun h => ?_) (fun h => ?_)
  · refine kR.aload_n dX11_undo_21 0 rfl ?_
    refine zR.dup dX11_undo_22 rfl ?_
    refine kR.getI dX11_undo_23 flX11_189 zcf11 zp56 (Or.inl rfl) ?_
    refine zR.iconst (v := 1) dX11_undo_26 (by decide) ?_
    refine zR.isub dX11_undo_27 ?_
    refine kR.putI dX11_undo_28 fpX11_189 zcf11 zp56 rfl h (fun σ1 h => ?_)
    refine kR.aload_n dX11_undo_31 0 rfl ?_
    refine zR.iconst (v := 0) dX11_undo_32 (by decide) ?_
    refine kR.aload_n dX11_undo_33 0 rfl ?_
    refine kR.aload_n dX11_undo_34 0 rfl ?_
    refine kR.getI dX11_undo_35 flX11_189 zcf11 zp56 (Or.inl rfl) ?_
    refine kR.cVi [.int (iG σ1 56 58)] dX11_undo_38 rfl (by decide) mwX11_443 zp56 (by decide) rfl rfl (Nat.le_of_ble_eq_true rfl) (lX11_ring σ1 (iG σ1 56 58)) ?_
    obtain ⟨σ2, e3, h⟩ := bnr_some h
    refine kR.cVv [.int 0, .int (fX11_ring σ1 (iG σ1 56 58))] dX11_undo_41 rfl (by decide) mwX11_446 zp56 (by decide) rfl rfl (Nat.le_of_ble_eq_true rfl) (lX11_copies 0 (fX11_ring σ1 (iG σ1 56 58)) σ1 _ e3) ?_
    refine zR.iconst (v := 1) dX11_undo_44 (by decide) ?_
    exact kR.iretW dX11_undo_45 (nzZ rfl (Or.inr rfl)) h
  · refine kR.aload_n dX11_undo_7 0 rfl ?_
    refine zR.iconst (v := 3) dX11_undo_8 (by decide) ?_
    obtain ⟨v6, σ4, e5, h⟩ := bnc_some h
    refine kR.cVi [.int 3] dX11_undo_9 rfl (by decide) mwX11_252 zp56 (by decide) rfl rfl (Nat.le_of_ble_eq_true rfl) (lX11_refuses 3 σ _ e5) ?_
    refine kR.if_lt (tgt := 19) dX11_undo_12 (by decide) h (fun h => ?_) (fun h => ?_)
    · refine zR.iconst (v := 0) dX11_undo_19 (by decide) ?_
      exact kR.iretW dX11_undo_20 (nzZ rfl (Or.inl rfl)) h
    · refine zR.iconst (v := 1) dX11_undo_15 (by decide) ?_
      refine zR.goto (tgt := 20) dX11_undo_16 (by decide) ?_
      exact kR.iretW dX11_undo_20 (nzZ rfl (Or.inr rfl)) h
theorem lX11_undo {sc : Nat × (Nat → Int32)} (σ : zS) (w : Int32 × zS) (h : fX11_undo σ = some w) : zC (zY0 sc) 2 0 0 mX11_undo [.ref 56] (zE σ) (some (.int w.1), zE w.2) := zC.of (by decide +kernel) (Nat.le_of_ble_eq_true rfl) ⟨_, rfl⟩ (eX11_undo σ w h)
theorem dX11_part_0 : decode cX11_part 0 = .ok (.iload_n 1, 1) := by decide +kernel
theorem dX11_part_1 : decode cX11_part 1 = .ok (.tableswitch 103 0 7 #[47, 50, 56, 62, 79, 85, 91, 97], 47) := by decide +kernel
theorem dX11_part_48 : decode cX11_part 48 = .ok (.iload_n 2, 1) := by decide +kernel
theorem dX11_part_49 : decode cX11_part 49 = .ok (.i2l, 1) := by decide +kernel
theorem dX11_part_50 : decode cX11_part 50 = .ok (.lreturn, 1) := by decide +kernel
theorem dX11_part_51 : decode cX11_part 51 = .ok (.aload_n 0, 1) := by decide +kernel
theorem dX11_part_52 : decode cX11_part 52 = .ok (.getfield 198, 3) := by decide +kernel
theorem dX11_part_55 : decode cX11_part 55 = .ok (.i2l, 1) := by decide +kernel
theorem dX11_part_56 : decode cX11_part 56 = .ok (.lreturn, 1) := by decide +kernel
theorem dX11_part_57 : decode cX11_part 57 = .ok (.aload_n 0, 1) := by decide +kernel
theorem dX11_part_58 : decode cX11_part 58 = .ok (.getfield 201, 3) := by decide +kernel
theorem dX11_part_61 : decode cX11_part 61 = .ok (.i2l, 1) := by decide +kernel
theorem dX11_part_62 : decode cX11_part 62 = .ok (.lreturn, 1) := by decide +kernel
theorem dX11_part_63 : decode cX11_part 63 = .ok (.aload_n 0, 1) := by decide +kernel
theorem dX11_part_64 : decode cX11_part 64 = .ok (.getfield 198, 3) := by decide +kernel
theorem dX11_part_67 : decode cX11_part 67 = .ok (.aload_n 0, 1) := by decide +kernel
theorem dX11_part_68 : decode cX11_part 68 = .ok (.getfield 201, 3) := by decide +kernel
theorem dX11_part_71 : decode cX11_part 71 = .ok (.if_icmp .ne 7, 3) := by decide +kernel
theorem dX11_part_74 : decode cX11_part 74 = .ok (.lconst 1, 1) := by decide +kernel
theorem dX11_part_75 : decode cX11_part 75 = .ok (.goto 4, 3) := by decide +kernel
theorem dX11_part_78 : decode cX11_part 78 = .ok (.lconst 0, 1) := by decide +kernel
theorem dX11_part_79 : decode cX11_part 79 = .ok (.lreturn, 1) := by decide +kernel
theorem dX11_part_80 : decode cX11_part 80 = .ok (.aload_n 0, 1) := by decide +kernel
theorem dX11_part_81 : decode cX11_part 81 = .ok (.getfield 204, 3) := by decide +kernel
theorem dX11_part_84 : decode cX11_part 84 = .ok (.i2l, 1) := by decide +kernel
theorem dX11_part_85 : decode cX11_part 85 = .ok (.lreturn, 1) := by decide +kernel
theorem dX11_part_86 : decode cX11_part 86 = .ok (.aload_n 0, 1) := by decide +kernel
theorem dX11_part_87 : decode cX11_part 87 = .ok (.getfield 207, 3) := by decide +kernel
theorem dX11_part_90 : decode cX11_part 90 = .ok (.i2l, 1) := by decide +kernel
theorem dX11_part_91 : decode cX11_part 91 = .ok (.lreturn, 1) := by decide +kernel
theorem dX11_part_92 : decode cX11_part 92 = .ok (.aload_n 0, 1) := by decide +kernel
theorem dX11_part_93 : decode cX11_part 93 = .ok (.getfield 210, 3) := by decide +kernel
theorem dX11_part_96 : decode cX11_part 96 = .ok (.i2l, 1) := by decide +kernel
theorem dX11_part_97 : decode cX11_part 97 = .ok (.lreturn, 1) := by decide +kernel
theorem dX11_part_98 : decode cX11_part 98 = .ok (.aload_n 0, 1) := by decide +kernel
theorem dX11_part_99 : decode cX11_part 99 = .ok (.getfield 213, 3) := by decide +kernel
theorem dX11_part_102 : decode cX11_part 102 = .ok (.i2l, 1) := by decide +kernel
theorem dX11_part_103 : decode cX11_part 103 = .ok (.lreturn, 1) := by decide +kernel
theorem dX11_part_104 : decode cX11_part 104 = .ok (.lconst 1, 1) := by decide +kernel
theorem dX11_part_105 : decode cX11_part 105 = .ok (.lreturn, 1) := by decide +kernel
def fX11_part (σ : zS) (p1 : Int32) (p2 : Int32) : Int64 := if p1 = 0 then p2.toInt64 else if p1 = 1 then ((iG σ 56 61) : Int32).toInt64 else if p1 = 2 then ((iG σ 56 62) : Int32).toInt64 else if p1 = 3 then if (iG σ 56 61) = (iG σ 56 62) then 1 else 0 else if p1 = 4 then ((iG σ 56 63) : Int32).toInt64 else if p1 = 5 then ((iG σ 56 64) : Int32).toInt64 else if p1 = 6 then ((iG σ 56 65) : Int32).toInt64 else if p1 = 7 then ((iG σ 56 66) : Int32).toInt64 else 1
theorem eX11_part {sc : Nat × (Nat → Int32)} (σ : zS) (p1 : Int32) (p2 : Int32) (w : Int64) (h : fX11_part σ p1 p2 = w) : zR (zY0 sc) 1 0 0 mX11_part 0 [(0, .ref 56), (1, .int p1), (2, .int p2)] [] (zE σ) (some (.long w), zE σ) := by
  unfold fX11_part at h
  refine kR.iload_n dX11_part_0 1 rfl ?_
  by_cases e0 : p1 = 0
  · rw [if_pos e0] at h
    refine zR.tableIn (off := 47) (tgt := 48) dX11_part_1 (by rw [e0]; decide) (by rw [e0]; decide) (by rw [e0]; rfl) (by decide) ?_
    refine kR.iload_n dX11_part_48 2 rfl ?_
    refine zR.i2l dX11_part_49 ?_
    exact kR.lret dX11_part_50 h
  rw [if_neg e0] at h
  by_cases e1 : p1 = 1
  · rw [if_pos e1] at h
    refine zR.tableIn (off := 50) (tgt := 51) dX11_part_1 (by rw [e1]; decide) (by rw [e1]; decide) (by rw [e1]; rfl) (by decide) ?_
    refine kR.aload_n dX11_part_51 0 rfl ?_
    refine kR.getI dX11_part_52 flX11_198 zcf11 zp56 (Or.inl rfl) ?_
    refine zR.i2l dX11_part_55 ?_
    exact kR.lret dX11_part_56 h
  rw [if_neg e1] at h
  by_cases e2 : p1 = 2
  · rw [if_pos e2] at h
    refine zR.tableIn (off := 56) (tgt := 57) dX11_part_1 (by rw [e2]; decide) (by rw [e2]; decide) (by rw [e2]; rfl) (by decide) ?_
    refine kR.aload_n dX11_part_57 0 rfl ?_
    refine kR.getI dX11_part_58 flX11_201 zcf11 zp56 (Or.inl rfl) ?_
    refine zR.i2l dX11_part_61 ?_
    exact kR.lret dX11_part_62 h
  rw [if_neg e2] at h
  by_cases e3 : p1 = 3
  · rw [if_pos e3] at h
    refine zR.tableIn (off := 62) (tgt := 63) dX11_part_1 (by rw [e3]; decide) (by rw [e3]; decide) (by rw [e3]; rfl) (by decide) ?_
    refine kR.aload_n dX11_part_63 0 rfl ?_
    refine kR.getI dX11_part_64 flX11_198 zcf11 zp56 (Or.inl rfl) ?_
    refine kR.aload_n dX11_part_67 0 rfl ?_
    refine kR.getI dX11_part_68 flX11_201 zcf11 zp56 (Or.inl rfl) ?_
    refine kR.icmp_ne (tgt := 78) dX11_part_71 (by decide) h (fun h => ?_) (fun h => ?_)
    · refine zR.lconst (v := 0) dX11_part_78 (by decide) ?_
      exact kR.lret dX11_part_79 h
    · refine zR.lconst (v := 1) dX11_part_74 (by decide) ?_
      refine zR.goto (tgt := 79) dX11_part_75 (by decide) ?_
      exact kR.lret dX11_part_79 h
  rw [if_neg e3] at h
  by_cases e4 : p1 = 4
  · rw [if_pos e4] at h
    refine zR.tableIn (off := 79) (tgt := 80) dX11_part_1 (by rw [e4]; decide) (by rw [e4]; decide) (by rw [e4]; rfl) (by decide) ?_
    refine kR.aload_n dX11_part_80 0 rfl ?_
    refine kR.getI dX11_part_81 flX11_204 zcf11 zp56 (Or.inl rfl) ?_
    refine zR.i2l dX11_part_84 ?_
    exact kR.lret dX11_part_85 h
  rw [if_neg e4] at h
  by_cases e5 : p1 = 5
  · rw [if_pos e5] at h
    refine zR.tableIn (off := 85) (tgt := 86) dX11_part_1 (by rw [e5]; decide) (by rw [e5]; decide) (by rw [e5]; rfl) (by decide) ?_
    refine kR.aload_n dX11_part_86 0 rfl ?_
    refine kR.getI dX11_part_87 flX11_207 zcf11 zp56 (Or.inl rfl) ?_
    refine zR.i2l dX11_part_90 ?_
    exact kR.lret dX11_part_91 h
  rw [if_neg e5] at h
  by_cases e6 : p1 = 6
  · rw [if_pos e6] at h
    refine zR.tableIn (off := 91) (tgt := 92) dX11_part_1 (by rw [e6]; decide) (by rw [e6]; decide) (by rw [e6]; rfl) (by decide) ?_
    refine kR.aload_n dX11_part_92 0 rfl ?_
    refine kR.getI dX11_part_93 flX11_210 zcf11 zp56 (Or.inl rfl) ?_
    refine zR.i2l dX11_part_96 ?_
    exact kR.lret dX11_part_97 h
  rw [if_neg e6] at h
  by_cases e7 : p1 = 7
  · rw [if_pos e7] at h
    refine zR.tableIn (off := 97) (tgt := 98) dX11_part_1 (by rw [e7]; decide) (by rw [e7]; decide) (by rw [e7]; rfl) (by decide) ?_
    refine kR.aload_n dX11_part_98 0 rfl ?_
    refine kR.getI dX11_part_99 flX11_213 zcf11 zp56 (Or.inl rfl) ?_
    refine zR.i2l dX11_part_102 ?_
    exact kR.lret dX11_part_103 h
  rw [if_neg e7] at h
  refine zR.tableD (tgt := 104) dX11_part_1 (ts_out 8 (by decide) (fun j hj e => match j, hj, e with | 0, _, e => absurd e (tne e0 rfl) | 1, _, e => absurd e (tne e1 rfl) | 2, _, e => absurd e (tne e2 rfl) | 3, _, e => absurd e (tne e3 rfl) | 4, _, e => absurd e (tne e4 rfl) | 5, _, e => absurd e (tne e5 rfl) | 6, _, e => absurd e (tne e6 rfl) | 7, _, e => absurd e (tne e7 rfl) | j + 8, hj, _ => absurd hj (by omega))) (by decide) ?_
  refine zR.lconst (v := 1) dX11_part_104 (by decide) ?_
  exact kR.lret dX11_part_105 h
theorem lX11_part {sc : Nat × (Nat → Int32)} (σ : zS) (p1 : Int32) (p2 : Int32) : zC (zY0 sc) 1 0 0 mX11_part [.ref 56, .int p1, .int p2] (zE σ) (some (.long (fX11_part σ p1 p2)), zE σ) := zC.of (by decide +kernel) (Nat.le_of_ble_eq_true rfl) rfl (eX11_part σ p1 p2 _ rfl)
theorem dX11_held_0 : decode cX11_held 0 = .ok (.lload_n 0, 1) := by decide +kernel
theorem dX11_held_1 : decode cX11_held 1 = .ok (.ldc2_w 449, 3) := by decide +kernel
theorem dX11_held_4 : decode cX11_held 4 = .ok (.lcmp, 1) := by decide +kernel
theorem dX11_held_5 : decode cX11_held 5 = .ok (.ifCond .le 9, 3) := by decide +kernel
theorem dX11_held_8 : decode cX11_held 8 = .ok (.ldc2_w 449, 3) := by decide +kernel
theorem dX11_held_11 : decode cX11_held 11 = .ok (.goto 18, 3) := by decide +kernel
theorem dX11_held_14 : decode cX11_held 14 = .ok (.lload_n 0, 1) := by decide +kernel
theorem dX11_held_15 : decode cX11_held 15 = .ok (.ldc2_w 451, 3) := by decide +kernel
theorem dX11_held_18 : decode cX11_held 18 = .ok (.lcmp, 1) := by decide +kernel
theorem dX11_held_19 : decode cX11_held 19 = .ok (.ifCond .ge 9, 3) := by decide +kernel
theorem dX11_held_22 : decode cX11_held 22 = .ok (.ldc2_w 451, 3) := by decide +kernel
theorem dX11_held_25 : decode cX11_held 25 = .ok (.goto 4, 3) := by decide +kernel
theorem dX11_held_28 : decode cX11_held 28 = .ok (.lload_n 0, 1) := by decide +kernel
theorem dX11_held_29 : decode cX11_held 29 = .ok (.lreturn, 1) := by decide +kernel
def fX11_held (p0 : Int64) : Int64 := if p0 ≤ 1000000 then if ((-1000000)) ≤ p0 then p0 else (-1000000) else 1000000
theorem eX11_held {sc : Nat × (Nat → Int32)} {μ : zM} (p0 : Int64) (w : Int64) (h : fX11_held p0 = w) : zR (zY0 sc) 1 0 0 mX11_held 0 [(0, .long p0)] [] μ (some (.long w), μ) := by
  unfold fX11_held at h
  refine kR.lload_n dX11_held_0 0 rfl ?_
  refine zR.ldc2 (v := 1000000) dX11_held_1 clX11_449 ?_
  refine kR.lcmp_le (tgt := 14) dX11_held_4 dX11_held_5 (by decide) h (fun h => ?_) (fun h => ?_)
  · refine kR.lload_n dX11_held_14 0 rfl ?_
    refine zR.ldc2 (v := (-1000000)) dX11_held_15 clX11_451 ?_
    refine kR.lcmp_ge (tgt := 28) dX11_held_18 dX11_held_19 (by decide) h (fun h => ?_) (fun h => ?_)
    · refine kR.lload_n dX11_held_28 0 rfl ?_
      exact kR.lret dX11_held_29 h
    · refine zR.ldc2 (v := (-1000000)) dX11_held_22 clX11_451 ?_
      refine zR.goto (tgt := 29) dX11_held_25 (by decide) ?_
      exact kR.lret dX11_held_29 h
  · refine zR.ldc2 (v := 1000000) dX11_held_8 clX11_449 ?_
    refine zR.goto (tgt := 29) dX11_held_11 (by decide) ?_
    exact kR.lret dX11_held_29 h
theorem lX11_held {sc : Nat × (Nat → Int32)} {μ : zM} (p0 : Int64) : zC (zY0 sc) 1 0 0 mX11_held [.long p0] μ (some (.long (fX11_held p0)), μ) := zC.of (by decide +kernel) (Nat.le_of_ble_eq_true rfl) rfl (eX11_held p0 _ rfl)
theorem dX11_floor_0 : decode cX11_floor 0 = .ok (.lload_n 2, 1) := by decide +kernel
theorem dX11_floor_1 : decode cX11_floor 1 = .ok (.lconst 0, 1) := by decide +kernel
theorem dX11_floor_2 : decode cX11_floor 2 = .ok (.lcmp, 1) := by decide +kernel
theorem dX11_floor_3 : decode cX11_floor 3 = .ok (.ifCond .ne 5, 3) := by decide +kernel
theorem dX11_floor_6 : decode cX11_floor 6 = .ok (.lconst 0, 1) := by decide +kernel
theorem dX11_floor_7 : decode cX11_floor 7 = .ok (.lreturn, 1) := by decide +kernel
theorem dX11_floor_8 : decode cX11_floor 8 = .ok (.lload_n 0, 1) := by decide +kernel
theorem dX11_floor_9 : decode cX11_floor 9 = .ok (.lload_n 2, 1) := by decide +kernel
theorem dX11_floor_10 : decode cX11_floor 10 = .ok (.ldiv, 1) := by decide +kernel
theorem dX11_floor_11 : decode cX11_floor 11 = .ok (.lstore 4, 2) := by decide +kernel
theorem dX11_floor_13 : decode cX11_floor 13 = .ok (.lload_n 0, 1) := by decide +kernel
theorem dX11_floor_14 : decode cX11_floor 14 = .ok (.lload_n 2, 1) := by decide +kernel
theorem dX11_floor_15 : decode cX11_floor 15 = .ok (.lrem, 1) := by decide +kernel
theorem dX11_floor_16 : decode cX11_floor 16 = .ok (.lconst 0, 1) := by decide +kernel
theorem dX11_floor_17 : decode cX11_floor 17 = .ok (.lcmp, 1) := by decide +kernel
theorem dX11_floor_18 : decode cX11_floor 18 = .ok (.ifCond .eq 35, 3) := by decide +kernel
theorem dX11_floor_21 : decode cX11_floor 21 = .ok (.lload_n 0, 1) := by decide +kernel
theorem dX11_floor_22 : decode cX11_floor 22 = .ok (.lconst 0, 1) := by decide +kernel
theorem dX11_floor_23 : decode cX11_floor 23 = .ok (.lcmp, 1) := by decide +kernel
theorem dX11_floor_24 : decode cX11_floor 24 = .ok (.ifCond .ge 7, 3) := by decide +kernel
theorem dX11_floor_27 : decode cX11_floor 27 = .ok (.iconst 1, 1) := by decide +kernel
theorem dX11_floor_28 : decode cX11_floor 28 = .ok (.goto 4, 3) := by decide +kernel
theorem dX11_floor_31 : decode cX11_floor 31 = .ok (.iconst 0, 1) := by decide +kernel
theorem dX11_floor_32 : decode cX11_floor 32 = .ok (.lload_n 2, 1) := by decide +kernel
theorem dX11_floor_33 : decode cX11_floor 33 = .ok (.lconst 0, 1) := by decide +kernel
theorem dX11_floor_34 : decode cX11_floor 34 = .ok (.lcmp, 1) := by decide +kernel
theorem dX11_floor_35 : decode cX11_floor 35 = .ok (.ifCond .ge 7, 3) := by decide +kernel
theorem dX11_floor_38 : decode cX11_floor 38 = .ok (.iconst 1, 1) := by decide +kernel
theorem dX11_floor_39 : decode cX11_floor 39 = .ok (.goto 4, 3) := by decide +kernel
theorem dX11_floor_42 : decode cX11_floor 42 = .ok (.iconst 0, 1) := by decide +kernel
theorem dX11_floor_43 : decode cX11_floor 43 = .ok (.if_icmp .eq 10, 3) := by decide +kernel
theorem dX11_floor_46 : decode cX11_floor 46 = .ok (.lload 4, 2) := by decide +kernel
theorem dX11_floor_48 : decode cX11_floor 48 = .ok (.lconst 1, 1) := by decide +kernel
theorem dX11_floor_49 : decode cX11_floor 49 = .ok (.lsub, 1) := by decide +kernel
theorem dX11_floor_50 : decode cX11_floor 50 = .ok (.goto 5, 3) := by decide +kernel
theorem dX11_floor_53 : decode cX11_floor 53 = .ok (.lload 4, 2) := by decide +kernel
theorem dX11_floor_55 : decode cX11_floor 55 = .ok (.lreturn, 1) := by decide +kernel
def fX11_floor_43 (x4 : Int64) (s0 : Int32) (s1 : Int32) : Option Int64 := if s1 = s0 then some x4 else some (x4 - 1)
theorem kX11_floor_43 {sc : Nat × (Nat → Int32)} {μ : zM} (x4 : Int64) (s0 : Int32) (s1 : Int32) (w : Int64) (h : fX11_floor_43 x4 s0 s1 = some w) : zR (zY0 sc) 1 0 0 mX11_floor 43 [(4, .long x4)] [.int s0, .int s1] μ (some (.long w), μ) := by
  unfold fX11_floor_43 at h
  refine kR.icmp_eq (tgt := 53) dX11_floor_43 (by decide) h (fun h => ?_) (fun h => ?_)
  · refine kR.lload dX11_floor_53 0 rfl ?_
    exact kR.lretO dX11_floor_55 h
  · refine kR.lload dX11_floor_46 0 rfl ?_
    refine zR.lconst (v := 1) dX11_floor_48 (by decide) ?_
    refine zR.lsub dX11_floor_49 ?_
    refine zR.goto (tgt := 55) dX11_floor_50 (by decide) ?_
    exact kR.lretO dX11_floor_55 h
def fX11_floor_32 (x2 : Int64) (x4 : Int64) (s0 : Int32) : Option Int64 := if 0 ≤ x2 then fX11_floor_43 x4 0 s0 else fX11_floor_43 x4 1 s0
theorem kX11_floor_32 {sc : Nat × (Nat → Int32)} {μ : zM} (x2 : Int64) (x4 : Int64) (s0 : Int32) (w : Int64) (h : fX11_floor_32 x2 x4 s0 = some w) : zR (zY0 sc) 1 0 0 mX11_floor 32 [(2, .long x2), (4, .long x4)] [.int s0] μ (some (.long w), μ) := by
  unfold fX11_floor_32 at h
  refine kR.lload_n dX11_floor_32 0 rfl ?_
  refine zR.lconst (v := 0) dX11_floor_33 (by decide) ?_
  refine kR.lcmp_ge (tgt := 42) dX11_floor_34 dX11_floor_35 (by decide) h (fun h => ?_) (fun h => ?_)
  · refine zR.iconst (v := 0) dX11_floor_42 (by decide) ?_
    refine zR.sub [1] rfl ?_
    exact kX11_floor_43 _ _ _ _ h
  · refine zR.iconst (v := 1) dX11_floor_38 (by decide) ?_
    refine zR.goto (tgt := 43) dX11_floor_39 (by decide) ?_
    refine zR.sub [1] rfl ?_
    exact kX11_floor_43 _ _ _ _ h
def fX11_floor (p0 : Int64) (p2 : Int64) : Option Int64 := if p2 = 0 then some 0 else gd (¬ p2 = 0) (gd (¬ p2 = 0) (if (p0 - p0 / p2 * p2) = 0 then some (p0 / p2) else if 0 ≤ p0 then fX11_floor_32 p2 (p0 / p2) 0 else fX11_floor_32 p2 (p0 / p2) 1))
theorem eX11_floor {sc : Nat × (Nat → Int32)} {μ : zM} (p0 : Int64) (p2 : Int64) (w : Int64) (h : fX11_floor p0 p2 = some w) : zR (zY0 sc) 1 0 0 mX11_floor 0 [(0, .long p0), (2, .long p2)] [] μ (some (.long w), μ) := by
  unfold fX11_floor at h
  refine kR.lload_n dX11_floor_0 1 rfl ?_
  refine zR.lconst (v := 0) dX11_floor_1 (by decide) ?_
  refine kR.lcmp_ne (tgt := 8) dX11_floor_2 dX11_floor_3 (by decide) h (fun h => ?_) (fun h => ?_)
  · refine kR.lload_n dX11_floor_8 0 rfl ?_
    refine kR.lload_n dX11_floor_9 1 rfl ?_
    refine kR.ldiv dX11_floor_10 h (fun h => ?_)
    refine zR.lstore (i := 4) (ls' := [(4, .long (p0 / p2)), (0, .long p0), (2, .long p2)]) dX11_floor_11 (by decide) rfl ?_
    refine kR.lload_n dX11_floor_13 1 rfl ?_
    refine kR.lload_n dX11_floor_14 2 rfl ?_
    refine kR.lrem dX11_floor_15 h (fun h => ?_)
    refine zR.lconst (v := 0) dX11_floor_16 (by decide) ?_
    refine kR.lcmp_eq (tgt := 53) dX11_floor_17 dX11_floor_18 (by decide) h (fun h => ?_) (fun h => ?_)
    · refine kR.lload dX11_floor_53 0 rfl ?_
      exact kR.lretO dX11_floor_55 h
    · refine kR.lload_n dX11_floor_21 1 rfl ?_
      refine zR.lconst (v := 0) dX11_floor_22 (by decide) ?_
      refine kR.lcmp_ge (tgt := 31) dX11_floor_23 dX11_floor_24 (by decide) h (fun h => ?_) (fun h => ?_)
      · refine zR.iconst (v := 0) dX11_floor_31 (by decide) ?_
        refine zR.sub [2, 0] rfl ?_
        exact kX11_floor_32 _ _ _ _ h
      · refine zR.iconst (v := 1) dX11_floor_27 (by decide) ?_
        refine zR.goto (tgt := 32) dX11_floor_28 (by decide) ?_
        refine zR.sub [2, 0] rfl ?_
        exact kX11_floor_32 _ _ _ _ h
  · refine zR.lconst (v := 0) dX11_floor_6 (by decide) ?_
    exact kR.lretO dX11_floor_7 h
theorem lX11_floor {sc : Nat × (Nat → Int32)} {μ : zM} (p0 : Int64) (p2 : Int64) (w : Int64) (h : fX11_floor p0 p2 = some w) : zC (zY0 sc) 1 0 0 mX11_floor [.long p0, .long p2] μ (some (.long w), μ) := zC.of (by decide +kernel) (Nat.le_of_ble_eq_true rfl) rfl (eX11_floor p0 p2 w h)
theorem dX11_two_0 : decode cX11_two 0 = .ok (.iload_n 0, 1) := by decide +kernel
theorem dX11_two_1 : decode cX11_two 1 = .ok (.tableswitch 176 10 20 #[59, 66, 73, 80, 89, 112, 124, 136, 148, 160, 172], 59) := by decide +kernel
theorem dX11_two_60 : decode cX11_two 60 = .ok (.lload_n 1, 1) := by decide +kernel
theorem dX11_two_61 : decode cX11_two 61 = .ok (.lload_n 3, 1) := by decide +kernel
theorem dX11_two_62 : decode cX11_two 62 = .ok (.ladd, 1) := by decide +kernel
theorem dX11_two_63 : decode cX11_two 63 = .ok (.invokestatic 453, 3) := by decide +kernel
theorem dX11_two_66 : decode cX11_two 66 = .ok (.lreturn, 1) := by decide +kernel
theorem dX11_two_67 : decode cX11_two 67 = .ok (.lload_n 1, 1) := by decide +kernel
theorem dX11_two_68 : decode cX11_two 68 = .ok (.lload_n 3, 1) := by decide +kernel
theorem dX11_two_69 : decode cX11_two 69 = .ok (.lsub, 1) := by decide +kernel
theorem dX11_two_70 : decode cX11_two 70 = .ok (.invokestatic 453, 3) := by decide +kernel
theorem dX11_two_73 : decode cX11_two 73 = .ok (.lreturn, 1) := by decide +kernel
theorem dX11_two_74 : decode cX11_two 74 = .ok (.lload_n 1, 1) := by decide +kernel
theorem dX11_two_75 : decode cX11_two 75 = .ok (.lload_n 3, 1) := by decide +kernel
theorem dX11_two_76 : decode cX11_two 76 = .ok (.lmul, 1) := by decide +kernel
theorem dX11_two_77 : decode cX11_two 77 = .ok (.invokestatic 453, 3) := by decide +kernel
theorem dX11_two_80 : decode cX11_two 80 = .ok (.lreturn, 1) := by decide +kernel
theorem dX11_two_81 : decode cX11_two 81 = .ok (.lload_n 1, 1) := by decide +kernel
theorem dX11_two_82 : decode cX11_two 82 = .ok (.lload_n 3, 1) := by decide +kernel
theorem dX11_two_83 : decode cX11_two 83 = .ok (.invokestatic 457, 3) := by decide +kernel
theorem dX11_two_86 : decode cX11_two 86 = .ok (.invokestatic 453, 3) := by decide +kernel
theorem dX11_two_89 : decode cX11_two 89 = .ok (.lreturn, 1) := by decide +kernel
theorem dX11_two_90 : decode cX11_two 90 = .ok (.lload_n 3, 1) := by decide +kernel
theorem dX11_two_91 : decode cX11_two 91 = .ok (.lconst 0, 1) := by decide +kernel
theorem dX11_two_92 : decode cX11_two 92 = .ok (.lcmp, 1) := by decide +kernel
theorem dX11_two_93 : decode cX11_two 93 = .ok (.ifCond .ne 7, 3) := by decide +kernel
theorem dX11_two_96 : decode cX11_two 96 = .ok (.lconst 0, 1) := by decide +kernel
theorem dX11_two_97 : decode cX11_two 97 = .ok (.goto 15, 3) := by decide +kernel
theorem dX11_two_100 : decode cX11_two 100 = .ok (.lload_n 1, 1) := by decide +kernel
theorem dX11_two_101 : decode cX11_two 101 = .ok (.lload_n 3, 1) := by decide +kernel
theorem dX11_two_102 : decode cX11_two 102 = .ok (.lload_n 1, 1) := by decide +kernel
theorem dX11_two_103 : decode cX11_two 103 = .ok (.lload_n 3, 1) := by decide +kernel
theorem dX11_two_104 : decode cX11_two 104 = .ok (.invokestatic 457, 3) := by decide +kernel
theorem dX11_two_107 : decode cX11_two 107 = .ok (.lmul, 1) := by decide +kernel
theorem dX11_two_108 : decode cX11_two 108 = .ok (.lsub, 1) := by decide +kernel
theorem dX11_two_109 : decode cX11_two 109 = .ok (.invokestatic 453, 3) := by decide +kernel
theorem dX11_two_112 : decode cX11_two 112 = .ok (.lreturn, 1) := by decide +kernel
theorem dX11_two_113 : decode cX11_two 113 = .ok (.lload_n 1, 1) := by decide +kernel
theorem dX11_two_114 : decode cX11_two 114 = .ok (.lload_n 3, 1) := by decide +kernel
theorem dX11_two_115 : decode cX11_two 115 = .ok (.lcmp, 1) := by decide +kernel
theorem dX11_two_116 : decode cX11_two 116 = .ok (.ifCond .ge 7, 3) := by decide +kernel
theorem dX11_two_119 : decode cX11_two 119 = .ok (.lload_n 1, 1) := by decide +kernel
theorem dX11_two_120 : decode cX11_two 120 = .ok (.goto 4, 3) := by decide +kernel
theorem dX11_two_123 : decode cX11_two 123 = .ok (.lload_n 3, 1) := by decide +kernel
theorem dX11_two_124 : decode cX11_two 124 = .ok (.lreturn, 1) := by decide +kernel
theorem dX11_two_125 : decode cX11_two 125 = .ok (.lload_n 1, 1) := by decide +kernel
theorem dX11_two_126 : decode cX11_two 126 = .ok (.lload_n 3, 1) := by decide +kernel
theorem dX11_two_127 : decode cX11_two 127 = .ok (.lcmp, 1) := by decide +kernel
theorem dX11_two_128 : decode cX11_two 128 = .ok (.ifCond .le 7, 3) := by decide +kernel
theorem dX11_two_131 : decode cX11_two 131 = .ok (.lload_n 1, 1) := by decide +kernel
theorem dX11_two_132 : decode cX11_two 132 = .ok (.goto 4, 3) := by decide +kernel
theorem dX11_two_135 : decode cX11_two 135 = .ok (.lload_n 3, 1) := by decide +kernel
theorem dX11_two_136 : decode cX11_two 136 = .ok (.lreturn, 1) := by decide +kernel
theorem dX11_two_137 : decode cX11_two 137 = .ok (.lload_n 1, 1) := by decide +kernel
theorem dX11_two_138 : decode cX11_two 138 = .ok (.lload_n 3, 1) := by decide +kernel
theorem dX11_two_139 : decode cX11_two 139 = .ok (.lcmp, 1) := by decide +kernel
theorem dX11_two_140 : decode cX11_two 140 = .ok (.ifCond .ge 7, 3) := by decide +kernel
theorem dX11_two_143 : decode cX11_two 143 = .ok (.lconst 1, 1) := by decide +kernel
theorem dX11_two_144 : decode cX11_two 144 = .ok (.goto 4, 3) := by decide +kernel
theorem dX11_two_147 : decode cX11_two 147 = .ok (.lconst 0, 1) := by decide +kernel
theorem dX11_two_148 : decode cX11_two 148 = .ok (.lreturn, 1) := by decide +kernel
theorem dX11_two_149 : decode cX11_two 149 = .ok (.lload_n 1, 1) := by decide +kernel
theorem dX11_two_150 : decode cX11_two 150 = .ok (.lload_n 3, 1) := by decide +kernel
theorem dX11_two_151 : decode cX11_two 151 = .ok (.lcmp, 1) := by decide +kernel
theorem dX11_two_152 : decode cX11_two 152 = .ok (.ifCond .le 7, 3) := by decide +kernel
theorem dX11_two_155 : decode cX11_two 155 = .ok (.lconst 1, 1) := by decide +kernel
theorem dX11_two_156 : decode cX11_two 156 = .ok (.goto 4, 3) := by decide +kernel
theorem dX11_two_159 : decode cX11_two 159 = .ok (.lconst 0, 1) := by decide +kernel
theorem dX11_two_160 : decode cX11_two 160 = .ok (.lreturn, 1) := by decide +kernel
theorem dX11_two_161 : decode cX11_two 161 = .ok (.lload_n 1, 1) := by decide +kernel
theorem dX11_two_162 : decode cX11_two 162 = .ok (.lload_n 3, 1) := by decide +kernel
theorem dX11_two_163 : decode cX11_two 163 = .ok (.lcmp, 1) := by decide +kernel
theorem dX11_two_164 : decode cX11_two 164 = .ok (.ifCond .ne 7, 3) := by decide +kernel
theorem dX11_two_167 : decode cX11_two 167 = .ok (.lconst 1, 1) := by decide +kernel
theorem dX11_two_168 : decode cX11_two 168 = .ok (.goto 4, 3) := by decide +kernel
theorem dX11_two_171 : decode cX11_two 171 = .ok (.lconst 0, 1) := by decide +kernel
theorem dX11_two_172 : decode cX11_two 172 = .ok (.lreturn, 1) := by decide +kernel
theorem dX11_two_173 : decode cX11_two 173 = .ok (.lload_n 1, 1) := by decide +kernel
theorem dX11_two_174 : decode cX11_two 174 = .ok (.lload_n 3, 1) := by decide +kernel
theorem dX11_two_175 : decode cX11_two 175 = .ok (.land, 1) := by decide +kernel
theorem dX11_two_176 : decode cX11_two 176 = .ok (.lreturn, 1) := by decide +kernel
theorem dX11_two_177 : decode cX11_two 177 = .ok (.lload_n 1, 1) := by decide +kernel
theorem dX11_two_178 : decode cX11_two 178 = .ok (.lload_n 3, 1) := by decide +kernel
theorem dX11_two_179 : decode cX11_two 179 = .ok (.lor, 1) := by decide +kernel
theorem dX11_two_180 : decode cX11_two 180 = .ok (.lreturn, 1) := by decide +kernel
def fX11_two (p0 : Int32) (p1 : Int64) (p3 : Int64) : Option Int64 := if p0 = 10 then some (fX11_held (p1 + p3)) else if p0 = 11 then some (fX11_held (p1 - p3)) else if p0 = 12 then some (fX11_held (p1 * p3)) else if p0 = 13 then bnr (fX11_floor p1 p3) fun v1 => some (fX11_held v1) else if p0 = 14 then if p3 = 0 then some 0 else bnr (fX11_floor p1 p3) fun v3 => some (fX11_held (p1 - (p3 * v3))) else if p0 = 15 then if p3 ≤ p1 then some p3 else some p1 else if p0 = 16 then if p1 ≤ p3 then some p3 else some p1 else if p0 = 17 then if p3 ≤ p1 then some 0 else some 1 else if p0 = 18 then if p1 ≤ p3 then some 0 else some 1 else if p0 = 19 then if p1 = p3 then some 1 else some 0 else if p0 = 20 then some (p1 &&& p3) else some (p1 ||| p3)
theorem eX11_two {sc : Nat × (Nat → Int32)} {μ : zM} (p0 : Int32) (p1 : Int64) (p3 : Int64) (w : Int64) (h : fX11_two p0 p1 p3 = some w) : zR (zY0 sc) 2 0 0 mX11_two 0 [(0, .int p0), (1, .long p1), (3, .long p3)] [] μ (some (.long w), μ) := by
  unfold fX11_two at h
  refine kR.iload_n dX11_two_0 0 rfl ?_
  by_cases e10 : p0 = 10
  · rw [if_pos e10] at h
    refine zR.tableIn (off := 59) (tgt := 60) dX11_two_1 (by rw [e10]; decide) (by rw [e10]; decide) (by rw [e10]; rfl) (by decide) ?_
    refine kR.lload_n dX11_two_60 1 rfl ?_
    refine kR.lload_n dX11_two_61 2 rfl ?_
    refine zR.ladd dX11_two_62 ?_
    refine kR.cSl [.long (p1 + p3)] dX11_two_63 rfl (by decide) (Or.inl mwX11_453) rfl (Nat.le_of_ble_eq_true rfl) (lX11_held (p1 + p3)) ?_
    exact kR.lretO dX11_two_66 h
  rw [if_neg e10] at h
  by_cases e11 : p0 = 11
  · rw [if_pos e11] at h
    refine zR.tableIn (off := 66) (tgt := 67) dX11_two_1 (by rw [e11]; decide) (by rw [e11]; decide) (by rw [e11]; rfl) (by decide) ?_
    refine kR.lload_n dX11_two_67 1 rfl ?_
    refine kR.lload_n dX11_two_68 2 rfl ?_
    refine zR.lsub dX11_two_69 ?_
    refine kR.cSl [.long (p1 - p3)] dX11_two_70 rfl (by decide) (Or.inl mwX11_453) rfl (Nat.le_of_ble_eq_true rfl) (lX11_held (p1 - p3)) ?_
    exact kR.lretO dX11_two_73 h
  rw [if_neg e11] at h
  by_cases e12 : p0 = 12
  · rw [if_pos e12] at h
    refine zR.tableIn (off := 73) (tgt := 74) dX11_two_1 (by rw [e12]; decide) (by rw [e12]; decide) (by rw [e12]; rfl) (by decide) ?_
    refine kR.lload_n dX11_two_74 1 rfl ?_
    refine kR.lload_n dX11_two_75 2 rfl ?_
    refine zR.lmul dX11_two_76 ?_
    refine kR.cSl [.long (p1 * p3)] dX11_two_77 rfl (by decide) (Or.inl mwX11_453) rfl (Nat.le_of_ble_eq_true rfl) (lX11_held (p1 * p3)) ?_
    exact kR.lretO dX11_two_80 h
  rw [if_neg e12] at h
  by_cases e13 : p0 = 13
  · rw [if_pos e13] at h
    refine zR.tableIn (off := 80) (tgt := 81) dX11_two_1 (by rw [e13]; decide) (by rw [e13]; decide) (by rw [e13]; rfl) (by decide) ?_
    refine kR.lload_n dX11_two_81 1 rfl ?_
    refine kR.lload_n dX11_two_82 2 rfl ?_
    obtain ⟨v1, e2, h⟩ := bnr_some h
    refine kR.cSl [.long p1, .long p3] dX11_two_83 rfl (by decide) (Or.inl mwX11_457) rfl (Nat.le_of_ble_eq_true rfl) (lX11_floor p1 p3 _ e2) ?_
    refine kR.cSl [.long v1] dX11_two_86 rfl (by decide) (Or.inl mwX11_453) rfl (Nat.le_of_ble_eq_true rfl) (lX11_held v1) ?_
    exact kR.lretO dX11_two_89 h
  rw [if_neg e13] at h
  by_cases e14 : p0 = 14
  · rw [if_pos e14] at h
    refine zR.tableIn (off := 89) (tgt := 90) dX11_two_1 (by rw [e14]; decide) (by rw [e14]; decide) (by rw [e14]; rfl) (by decide) ?_
    refine kR.lload_n dX11_two_90 2 rfl ?_
    refine zR.lconst (v := 0) dX11_two_91 (by decide) ?_
    refine kR.lcmp_ne (tgt := 100) dX11_two_92 dX11_two_93 (by decide) h (fun h => ?_) (fun h => ?_)
    · refine kR.lload_n dX11_two_100 1 rfl ?_
      refine kR.lload_n dX11_two_101 2 rfl ?_
      refine kR.lload_n dX11_two_102 1 rfl ?_
      refine kR.lload_n dX11_two_103 2 rfl ?_
      obtain ⟨v3, e4, h⟩ := bnr_some h
      refine kR.cSl [.long p1, .long p3] dX11_two_104 rfl (by decide) (Or.inl mwX11_457) rfl (Nat.le_of_ble_eq_true rfl) (lX11_floor p1 p3 _ e4) ?_
      refine zR.lmul dX11_two_107 ?_
      refine zR.lsub dX11_two_108 ?_
      refine kR.cSl [.long (p1 - (p3 * v3))] dX11_two_109 rfl (by decide) (Or.inl mwX11_453) rfl (Nat.le_of_ble_eq_true rfl) (lX11_held (p1 - (p3 * v3))) ?_
      exact kR.lretO dX11_two_112 h
    · refine zR.lconst (v := 0) dX11_two_96 (by decide) ?_
      refine zR.goto (tgt := 112) dX11_two_97 (by decide) ?_
      exact kR.lretO dX11_two_112 h
  rw [if_neg e14] at h
  by_cases e15 : p0 = 15
  · rw [if_pos e15] at h
    refine zR.tableIn (off := 112) (tgt := 113) dX11_two_1 (by rw [e15]; decide) (by rw [e15]; decide) (by rw [e15]; rfl) (by decide) ?_
    refine kR.lload_n dX11_two_113 1 rfl ?_
    refine kR.lload_n dX11_two_114 2 rfl ?_
    refine kR.lcmp_ge (tgt := 123) dX11_two_115 dX11_two_116 (by decide) h (fun h => ?_) (fun h => ?_)
    · refine kR.lload_n dX11_two_123 2 rfl ?_
      exact kR.lretO dX11_two_124 h
    · refine kR.lload_n dX11_two_119 1 rfl ?_
      refine zR.goto (tgt := 124) dX11_two_120 (by decide) ?_
      exact kR.lretO dX11_two_124 h
  rw [if_neg e15] at h
  by_cases e16 : p0 = 16
  · rw [if_pos e16] at h
    refine zR.tableIn (off := 124) (tgt := 125) dX11_two_1 (by rw [e16]; decide) (by rw [e16]; decide) (by rw [e16]; rfl) (by decide) ?_
    refine kR.lload_n dX11_two_125 1 rfl ?_
    refine kR.lload_n dX11_two_126 2 rfl ?_
    refine kR.lcmp_le (tgt := 135) dX11_two_127 dX11_two_128 (by decide) h (fun h => ?_) (fun h => ?_)
    · refine kR.lload_n dX11_two_135 2 rfl ?_
      exact kR.lretO dX11_two_136 h
    · refine kR.lload_n dX11_two_131 1 rfl ?_
      refine zR.goto (tgt := 136) dX11_two_132 (by decide) ?_
      exact kR.lretO dX11_two_136 h
  rw [if_neg e16] at h
  by_cases e17 : p0 = 17
  · rw [if_pos e17] at h
    refine zR.tableIn (off := 136) (tgt := 137) dX11_two_1 (by rw [e17]; decide) (by rw [e17]; decide) (by rw [e17]; rfl) (by decide) ?_
    refine kR.lload_n dX11_two_137 1 rfl ?_
    refine kR.lload_n dX11_two_138 2 rfl ?_
    refine kR.lcmp_ge (tgt := 147) dX11_two_139 dX11_two_140 (by decide) h (fun h => ?_) (fun h => ?_)
    · refine zR.lconst (v := 0) dX11_two_147 (by decide) ?_
      exact kR.lretO dX11_two_148 h
    · refine zR.lconst (v := 1) dX11_two_143 (by decide) ?_
      refine zR.goto (tgt := 148) dX11_two_144 (by decide) ?_
      exact kR.lretO dX11_two_148 h
  rw [if_neg e17] at h
  by_cases e18 : p0 = 18
  · rw [if_pos e18] at h
    refine zR.tableIn (off := 148) (tgt := 149) dX11_two_1 (by rw [e18]; decide) (by rw [e18]; decide) (by rw [e18]; rfl) (by decide) ?_
    refine kR.lload_n dX11_two_149 1 rfl ?_
    refine kR.lload_n dX11_two_150 2 rfl ?_
    refine kR.lcmp_le (tgt := 159) dX11_two_151 dX11_two_152 (by decide) h (fun h => ?_) (fun h => ?_)
    · refine zR.lconst (v := 0) dX11_two_159 (by decide) ?_
      exact kR.lretO dX11_two_160 h
    · refine zR.lconst (v := 1) dX11_two_155 (by decide) ?_
      refine zR.goto (tgt := 160) dX11_two_156 (by decide) ?_
      exact kR.lretO dX11_two_160 h
  rw [if_neg e18] at h
  by_cases e19 : p0 = 19
  · rw [if_pos e19] at h
    refine zR.tableIn (off := 160) (tgt := 161) dX11_two_1 (by rw [e19]; decide) (by rw [e19]; decide) (by rw [e19]; rfl) (by decide) ?_
    refine kR.lload_n dX11_two_161 1 rfl ?_
    refine kR.lload_n dX11_two_162 2 rfl ?_
    refine kR.lcmp_ne (tgt := 171) dX11_two_163 dX11_two_164 (by decide) h (fun h => ?_) (fun h => ?_)
    · refine zR.lconst (v := 0) dX11_two_171 (by decide) ?_
      exact kR.lretO dX11_two_172 h
    · refine zR.lconst (v := 1) dX11_two_167 (by decide) ?_
      refine zR.goto (tgt := 172) dX11_two_168 (by decide) ?_
      exact kR.lretO dX11_two_172 h
  rw [if_neg e19] at h
  by_cases e20 : p0 = 20
  · rw [if_pos e20] at h
    refine zR.tableIn (off := 172) (tgt := 173) dX11_two_1 (by rw [e20]; decide) (by rw [e20]; decide) (by rw [e20]; rfl) (by decide) ?_
    refine kR.lload_n dX11_two_173 1 rfl ?_
    refine kR.lload_n dX11_two_174 2 rfl ?_
    refine zR.land dX11_two_175 ?_
    exact kR.lretO dX11_two_176 h
  rw [if_neg e20] at h
  refine zR.tableD (tgt := 177) dX11_two_1 (ts_out 11 (by decide) (fun j hj e => match j, hj, e with | 0, _, e => absurd e (tne e10 rfl) | 1, _, e => absurd e (tne e11 rfl) | 2, _, e => absurd e (tne e12 rfl) | 3, _, e => absurd e (tne e13 rfl) | 4, _, e => absurd e (tne e14 rfl) | 5, _, e => absurd e (tne e15 rfl) | 6, _, e => absurd e (tne e16 rfl) | 7, _, e => absurd e (tne e17 rfl) | 8, _, e => absurd e (tne e18 rfl) | 9, _, e => absurd e (tne e19 rfl) | 10, _, e => absurd e (tne e20 rfl) | j + 11, hj, _ => absurd hj (by omega))) (by decide) ?_
  refine kR.lload_n dX11_two_177 1 rfl ?_
  refine kR.lload_n dX11_two_178 2 rfl ?_
  refine zR.lor dX11_two_179 ?_
  exact kR.lretO dX11_two_180 h
theorem lX11_two {sc : Nat × (Nat → Int32)} {μ : zM} (p0 : Int32) (p1 : Int64) (p3 : Int64) (w : Int64) (h : fX11_two p0 p1 p3 = some w) : zC (zY0 sc) 2 0 0 mX11_two [.int p0, .long p1, .long p3] μ (some (.long w), μ) := zC.of (by decide +kernel) (Nat.le_of_ble_eq_true rfl) rfl (eX11_two p0 p1 p3 w h)

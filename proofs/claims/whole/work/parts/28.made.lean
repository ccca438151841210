/-! MY OWN (by program): the constructors -/
section NR
variable {Y : zY} {d kc ks kc' ks' : Nat} {q : zMI} {pc : Nat} {ls : List (Nat × Value)} {st stk : List Value} {μ : zM} {o : Option Value × zM}
theorem nR.aload_n {k : Fin 4} {x : Nat} (dg : decode q.2.1 pc = .ok (.aload_n k, 1)) (j : Nat) (hj : ls[j]? = some ((k : Nat), .ref x)) (h : zR Y d kc ks q (pc + 1) ls (.ref x :: st) μ o) : zR Y d kc ks q pc ls st μ o := zR.aload_n j hj dg h
theorem nR.new {i ci : Nat} (x : Nat) (dg : decode q.2.1 pc = .ok (.new i, 3)) (hc : zCF ci) (hw : zNo q.1.cls i ci) (hx : μ.2.2.2 + 1 = x) (hk : Y.1 x = ci) (hn : x < 1000) (e1 : kc + 1 = kc') (e2 : ks + zNf ci = ks') (h : zR Y d kc ks q (pc + 3) ls (.ref x :: st) (zNw μ) o) : zR Y d kc' ks' q pc ls st μ o := by
  subst hx e1 e2
  exact zR.new dg hc hw hk hn h
theorem nR.newI {n : Int32} {N : Nat} (x : Nat) (dg : decode q.2.1 pc = .ok (.newarray .int, 2)) (hw : Cond.arrayClass .int ∈ TB) (hx : μ.2.2.2 + 1 = x) (hk : Y.1 x = 20) (hy : Y.2.1 x = N) (hn0 : ¬ n < 0) (hN : n.toNatClampNeg = N) (hN2 : N ≤ 10000) (hn : x < 1000) (e1 : kc + 1 = kc') (e2 : ks + N = ks') (h : zR Y d kc ks q (pc + 2) ls (.ref x :: st) (zNw μ) o) : zR Y d kc' ks' q pc ls (.int n :: st) μ o := by
  subst hx e1 e2
  exact zR.newI dg hw hk hy hn0 hN hN2 hn h
theorem nR.newL {n : Int32} {N : Nat} (x : Nat) (dg : decode q.2.1 pc = .ok (.newarray .long, 2)) (hw : Cond.arrayClass .long ∈ TB) (hx : μ.2.2.2 + 1 = x) (hk : Y.1 x = 21) (hy : Y.2.1 x = N) (hn0 : ¬ n < 0) (hN : n.toNatClampNeg = N) (hN2 : N ≤ 10000) (hn : x < 1000) (e1 : kc + 1 = kc') (e2 : ks + N = ks') (h : zR Y d kc ks q (pc + 2) ls (.ref x :: st) (zNw μ) o) : zR Y d kc' ks' q pc ls (.int n :: st) μ o := by
  subst hx e1 e2
  exact zR.newL dg hw hk hy hn0 hN hN2 hn h
theorem nR.newB {n : Int32} {N : Nat} (x : Nat) (dg : decode q.2.1 pc = .ok (.newarray .byte, 2)) (hw : Cond.arrayClass .byte ∈ TB) (hx : μ.2.2.2 + 1 = x) (hk : Y.1 x = 22) (hy : Y.2.1 x = N) (hn0 : ¬ n < 0) (hN : n.toNatClampNeg = N) (hN2 : N ≤ 10000) (hn : x < 1000) (e1 : kc + 1 = kc') (e2 : ks + N = ks') (h : zR Y d kc ks q (pc + 2) ls (.ref x :: st) (zNw μ) o) : zR Y d kc' ks' q pc ls (.int n :: st) μ o := by
  subst hx e1 e2
  exact zR.newB dg hw hk hy hn0 hN hN2 hn h
theorem nR.newZ {n : Int32} {N : Nat} (x : Nat) (dg : decode q.2.1 pc = .ok (.newarray .boolean, 2)) (hw : Cond.arrayClass .boolean ∈ TB) (hx : μ.2.2.2 + 1 = x) (hk : Y.1 x = 23) (hy : Y.2.1 x = N) (hn0 : ¬ n < 0) (hN : n.toNatClampNeg = N) (hN2 : N ≤ 10000) (hn : x < 1000) (e1 : kc + 1 = kc') (e2 : ks + N = ks') (h : zR Y d kc ks q (pc + 2) ls (.ref x :: st) (zNw μ) o) : zR Y d kc' ks' q pc ls (.int n :: st) μ o := by
  subst hx e1 e2
  exact zR.newZ dg hw hk hy hn0 hN hN2 hn h
variable {d' kd kt i n : Nat} {q' : zMI} {μ1 : zM}
theorem nR.callI {x : Nat} (as : List Value) (dg : decode q.2.1 pc = .ok (.invokespecial i, 3)) (hs : stk = as.reverse ++ .ref x :: st) (hd : d' + 1 ≤ d) (hm : zMi q.1.cls i q' n) (hx : 1 ≤ x) (hn : as.length = n) (hst : (st.map fun v => v.category).sum ≤ 8) (hc : zC Y d' kd kt q' (.ref x :: as) μ (none, μ1)) (e1 : kd + kc = kc') (e2 : kt + ks = ks') (h : zR Y d kc ks q (pc + 3) ls st μ1 o) : zR Y d kc' ks' q pc ls stk μ o := by
  subst hs e1 e2
  exact zR.callI dg hd hm hx hn hst hc h
end NR
theorem dX10_init_0 : decode cX10_init 0 = .ok (.aload_n 0, 1) := by decide +kernel
theorem dX10_init_1 : decode cX10_init 1 = .ok (.invokespecial 3, 3) := by decide +kernel
theorem dX10_init_4 : decode cX10_init 4 = .ok (.aload_n 0, 1) := by decide +kernel
theorem dX10_init_5 : decode cX10_init 5 = .ok (.new 9, 3) := by decide +kernel
theorem dX10_init_8 : decode cX10_init 8 = .ok (.dup, 1) := by decide +kernel
theorem dX10_init_9 : decode cX10_init 9 = .ok (.invokespecial 11, 3) := by decide +kernel
theorem dX10_init_12 : decode cX10_init 12 = .ok (.putfield 12, 3) := by decide +kernel
theorem dX10_init_15 : decode cX10_init 15 = .ok (.aload_n 0, 1) := by decide +kernel
theorem dX10_init_16 : decode cX10_init 16 = .ok (.new 16, 3) := by decide +kernel
theorem dX10_init_19 : decode cX10_init 19 = .ok (.dup, 1) := by decide +kernel
theorem dX10_init_20 : decode cX10_init 20 = .ok (.invokespecial 18, 3) := by decide +kernel
theorem dX10_init_23 : decode cX10_init 23 = .ok (.putfield 19, 3) := by decide +kernel
theorem dX10_init_26 : decode cX10_init 26 = .ok (.aload_n 0, 1) := by decide +kernel
theorem dX10_init_27 : decode cX10_init 27 = .ok (.new 23, 3) := by decide +kernel
theorem dX10_init_30 : decode cX10_init 30 = .ok (.dup, 1) := by decide +kernel
theorem dX10_init_31 : decode cX10_init 31 = .ok (.invokespecial 25, 3) := by decide +kernel
theorem dX10_init_34 : decode cX10_init 34 = .ok (.putfield 26, 3) := by decide +kernel
theorem dX10_init_37 : decode cX10_init 37 = .ok (.aload_n 0, 1) := by decide +kernel
theorem dX10_init_38 : decode cX10_init 38 = .ok (.new 30, 3) := by decide +kernel
theorem dX10_init_41 : decode cX10_init 41 = .ok (.dup, 1) := by decide +kernel
theorem dX10_init_42 : decode cX10_init 42 = .ok (.aload_n 0, 1) := by decide +kernel
theorem dX10_init_43 : decode cX10_init 43 = .ok (.getfield 19, 3) := by decide +kernel
theorem dX10_init_46 : decode cX10_init 46 = .ok (.new 32, 3) := by decide +kernel
theorem dX10_init_49 : decode cX10_init 49 = .ok (.dup, 1) := by decide +kernel
theorem dX10_init_50 : decode cX10_init 50 = .ok (.invokespecial 34, 3) := by decide +kernel
theorem dX10_init_53 : decode cX10_init 53 = .ok (.invokespecial 35, 3) := by decide +kernel
theorem dX10_init_56 : decode cX10_init 56 = .ok (.putfield 38, 3) := by decide +kernel
theorem dX10_init_59 : decode cX10_init 59 = .ok (.aload_n 0, 1) := by decide +kernel
theorem dX10_init_60 : decode cX10_init 60 = .ok (.new 42, 3) := by decide +kernel
theorem dX10_init_63 : decode cX10_init 63 = .ok (.dup, 1) := by decide +kernel
theorem dX10_init_64 : decode cX10_init 64 = .ok (.aload_n 0, 1) := by decide +kernel
theorem dX10_init_65 : decode cX10_init 65 = .ok (.getfield 38, 3) := by decide +kernel
theorem dX10_init_68 : decode cX10_init 68 = .ok (.invokespecial 44, 3) := by decide +kernel
theorem dX10_init_71 : decode cX10_init 71 = .ok (.putfield 47, 3) := by decide +kernel
theorem dX10_init_74 : decode cX10_init 74 = .ok (.aload_n 0, 1) := by decide +kernel
theorem dX10_init_75 : decode cX10_init 75 = .ok (.new 51, 3) := by decide +kernel
theorem dX10_init_78 : decode cX10_init 78 = .ok (.dup, 1) := by decide +kernel
theorem dX10_init_79 : decode cX10_init 79 = .ok (.invokespecial 53, 3) := by decide +kernel
theorem dX10_init_82 : decode cX10_init 82 = .ok (.putfield 54, 3) := by decide +kernel
theorem dX10_init_85 : decode cX10_init 85 = .ok (.aload_n 0, 1) := by decide +kernel
theorem dX10_init_86 : decode cX10_init 86 = .ok (.new 58, 3) := by decide +kernel
theorem dX10_init_89 : decode cX10_init 89 = .ok (.dup, 1) := by decide +kernel
theorem dX10_init_90 : decode cX10_init 90 = .ok (.invokespecial 60, 3) := by decide +kernel
theorem dX10_init_93 : decode cX10_init 93 = .ok (.putfield 61, 3) := by decide +kernel
theorem dX10_init_96 : decode cX10_init 96 = .ok (.aload_n 0, 1) := by decide +kernel
theorem dX10_init_97 : decode cX10_init 97 = .ok (.iconst 5, 1) := by decide +kernel
theorem dX10_init_98 : decode cX10_init 98 = .ok (.newarray .int, 2) := by decide +kernel
theorem dX10_init_100 : decode cX10_init 100 = .ok (.putfield 65, 3) := by decide +kernel
theorem dX10_init_103 : decode cX10_init 103 = .ok (.aload_n 0, 1) := by decide +kernel
theorem dX10_init_104 : decode cX10_init 104 = .ok (.new 32, 3) := by decide +kernel
theorem dX10_init_107 : decode cX10_init 107 = .ok (.dup, 1) := by decide +kernel
theorem dX10_init_108 : decode cX10_init 108 = .ok (.invokespecial 34, 3) := by decide +kernel
theorem dX10_init_111 : decode cX10_init 111 = .ok (.putfield 69, 3) := by decide +kernel
theorem dX10_init_114 : decode cX10_init 114 = .ok (.aload_n 0, 1) := by decide +kernel
theorem dX10_init_115 : decode cX10_init 115 = .ok (.new 73, 3) := by decide +kernel
theorem dX10_init_118 : decode cX10_init 118 = .ok (.dup, 1) := by decide +kernel
theorem dX10_init_119 : decode cX10_init 119 = .ok (.aload_n 0, 1) := by decide +kernel
theorem dX10_init_120 : decode cX10_init 120 = .ok (.getfield 12, 3) := by decide +kernel
theorem dX10_init_123 : decode cX10_init 123 = .ok (.aload_n 0, 1) := by decide +kernel
theorem dX10_init_124 : decode cX10_init 124 = .ok (.getfield 69, 3) := by decide +kernel
theorem dX10_init_127 : decode cX10_init 127 = .ok (.invokespecial 75, 3) := by decide +kernel
theorem dX10_init_130 : decode cX10_init 130 = .ok (.putfield 78, 3) := by decide +kernel
theorem dX10_init_133 : decode cX10_init 133 = .ok (.aload_n 0, 1) := by decide +kernel
theorem dX10_init_134 : decode cX10_init 134 = .ok (.iconst 1, 1) := by decide +kernel
theorem dX10_init_135 : decode cX10_init 135 = .ok (.putfield 82, 3) := by decide +kernel
theorem dX10_init_138 : decode cX10_init 138 = .ok (.return_, 1) := by decide +kernel
theorem dX9_init_0 : decode cX9_init 0 = .ok (.aload_n 0, 1) := by decide +kernel
theorem dX9_init_1 : decode cX9_init 1 = .ok (.invokespecial 3, 3) := by decide +kernel
theorem dX9_init_4 : decode cX9_init 4 = .ok (.aload_n 0, 1) := by decide +kernel
theorem dX9_init_5 : decode cX9_init 5 = .ok (.sipush 1600, 3) := by decide +kernel
theorem dX9_init_8 : decode cX9_init 8 = .ok (.newarray .byte, 2) := by decide +kernel
theorem dX9_init_10 : decode cX9_init 10 = .ok (.putfield 9, 3) := by decide +kernel
theorem dX9_init_13 : decode cX9_init 13 = .ok (.aload_n 0, 1) := by decide +kernel
theorem dX9_init_14 : decode cX9_init 14 = .ok (.iconst 0, 1) := by decide +kernel
theorem dX9_init_15 : decode cX9_init 15 = .ok (.putfield 15, 3) := by decide +kernel
theorem dX9_init_18 : decode cX9_init 18 = .ok (.return_, 1) := by decide +kernel
def cX9_init_2 (μ : zM) : zM := (sI (sR (zNw μ) 2 0 3) 2 1 0)
set_option maxRecDepth 100000 in
theorem lX9_init_2 {sc : Nat × (Nat → Int32)} (μ : zM) (hn : μ.2.2.2 = 2) : zC (zY0 sc) 1 1 1600 mX9_init [.ref 2] μ (none, cX9_init_2 μ) := by
  obtain ⟨I, L, R, n⟩ := μ
  dsimp only at hn
  subst hn
  refine zC.of (by decide +kernel) (Nat.le_of_ble_eq_true rfl) rfl ?_
  refine nR.aload_n dX9_init_0 0 rfl ?_
  refine zR.objI dX9_init_1 (by decide) moX9_3 (by decide) (Nat.le_of_ble_eq_true rfl) ?_
  refine nR.aload_n dX9_init_4 0 rfl ?_
  refine zR.sipush (v := 1600) dX9_init_5 (by decide) ?_
  refine nR.newB (N := 1600) 3 (kc := 0) (ks := 0) dX9_init_8 ar_byte rfl rfl rfl (by decide) (by decide) (by decide) (by decide) rfl rfl ?_
  refine zR.putR dX9_init_10 (Or.inr ⟨ffX9_9, rfl⟩) zcf9 ⟨Nat.le_of_ble_eq_true rfl, Nat.le_of_ble_eq_true rfl, rfl⟩ (Or.inr ⟨_, rfl⟩) ?_
  refine nR.aload_n dX9_init_13 0 rfl ?_
  refine zR.iconst (v := 0) dX9_init_14 (by decide) ?_
  refine zR.putI dX9_init_15 (Or.inl fpX9_15) zcf9 ⟨Nat.le_of_ble_eq_true rfl, Nat.le_of_ble_eq_true rfl, rfl⟩ rfl rfl (fun _ _ => rfl) ?_
  exact zR.vret dX9_init_18
theorem dX7_init_0 : decode cX7_init 0 = .ok (.aload_n 0, 1) := by decide +kernel
theorem dX7_init_1 : decode cX7_init 1 = .ok (.invokespecial 5, 3) := by decide +kernel
theorem dX7_init_4 : decode cX7_init 4 = .ok (.aload_n 0, 1) := by decide +kernel
theorem dX7_init_5 : decode cX7_init 5 = .ok (.bipush 104, 2) := by decide +kernel
theorem dX7_init_7 : decode cX7_init 7 = .ok (.newarray .int, 2) := by decide +kernel
theorem dX7_init_9 : decode cX7_init 9 = .ok (.putfield 11, 3) := by decide +kernel
theorem dX7_init_12 : decode cX7_init 12 = .ok (.return_, 1) := by decide +kernel
def cX7_init_4 (μ : zM) : zM := (sR (zNw μ) 4 0 5)
set_option maxRecDepth 100000 in
theorem lX7_init_4 {sc : Nat × (Nat → Int32)} (μ : zM) (hn : μ.2.2.2 = 4) : zC (zY0 sc) 1 1 104 mX7_init [.ref 4] μ (none, cX7_init_4 μ) := by
  obtain ⟨I, L, R, n⟩ := μ
  dsimp only at hn
  subst hn
  refine zC.of (by decide +kernel) (Nat.le_of_ble_eq_true rfl) rfl ?_
  refine nR.aload_n dX7_init_0 0 rfl ?_
  refine zR.objI dX7_init_1 (by decide) moX7_5 (by decide) (Nat.le_of_ble_eq_true rfl) ?_
  refine nR.aload_n dX7_init_4 0 rfl ?_
  refine zR.bipush (v := 104) dX7_init_5 (by decide) ?_
  refine nR.newI (N := 104) 5 (kc := 0) (ks := 0) dX7_init_7 ar_int rfl rfl rfl (by decide) (by decide) (by decide) (by decide) rfl rfl ?_
  refine zR.putR dX7_init_9 (Or.inr ⟨ffX7_11, rfl⟩) zcf7 ⟨Nat.le_of_ble_eq_true rfl, Nat.le_of_ble_eq_true rfl, rfl⟩ (Or.inr ⟨_, rfl⟩) ?_
  exact zR.vret dX7_init_12
theorem dX2_init_0 : decode cX2_init 0 = .ok (.aload_n 0, 1) := by decide +kernel
theorem dX2_init_1 : decode cX2_init 1 = .ok (.invokespecial 3, 3) := by decide +kernel
theorem dX2_init_4 : decode cX2_init 4 = .ok (.aload_n 0, 1) := by decide +kernel
theorem dX2_init_5 : decode cX2_init 5 = .ok (.sipush 2080, 3) := by decide +kernel
theorem dX2_init_8 : decode cX2_init 8 = .ok (.newarray .int, 2) := by decide +kernel
theorem dX2_init_10 : decode cX2_init 10 = .ok (.putfield 11, 3) := by decide +kernel
theorem dX2_init_13 : decode cX2_init 13 = .ok (.aload_n 0, 1) := by decide +kernel
theorem dX2_init_14 : decode cX2_init 14 = .ok (.iconst 0, 1) := by decide +kernel
theorem dX2_init_15 : decode cX2_init 15 = .ok (.putfield 17, 3) := by decide +kernel
theorem dX2_init_18 : decode cX2_init 18 = .ok (.aload_n 0, 1) := by decide +kernel
theorem dX2_init_19 : decode cX2_init 19 = .ok (.iconst 0, 1) := by decide +kernel
theorem dX2_init_20 : decode cX2_init 20 = .ok (.putfield 21, 3) := by decide +kernel
theorem dX2_init_23 : decode cX2_init 23 = .ok (.return_, 1) := by decide +kernel
def cX2_init_6 (μ : zM) : zM := (sI (sI (sR (zNw μ) 6 0 7) 6 1 0) 6 2 0)
set_option maxRecDepth 100000 in
theorem lX2_init_6 {sc : Nat × (Nat → Int32)} (μ : zM) (hn : μ.2.2.2 = 6) : zC (zY0 sc) 1 1 2080 mX2_init [.ref 6] μ (none, cX2_init_6 μ) := by
  obtain ⟨I, L, R, n⟩ := μ
  dsimp only at hn
  subst hn
  refine zC.of (by decide +kernel) (Nat.le_of_ble_eq_true rfl) rfl ?_
  refine nR.aload_n dX2_init_0 0 rfl ?_
  refine zR.objI dX2_init_1 (by decide) moX2_3 (by decide) (Nat.le_of_ble_eq_true rfl) ?_
  refine nR.aload_n dX2_init_4 0 rfl ?_
  refine zR.sipush (v := 2080) dX2_init_5 (by decide) ?_
  refine nR.newI (N := 2080) 7 (kc := 0) (ks := 0) dX2_init_8 ar_int rfl rfl rfl (by decide) (by decide) (by decide) (by decide) rfl rfl ?_
  refine zR.putR dX2_init_10 (Or.inr ⟨ffX2_11, rfl⟩) zcf2 ⟨Nat.le_of_ble_eq_true rfl, Nat.le_of_ble_eq_true rfl, rfl⟩ (Or.inr ⟨_, rfl⟩) ?_
  refine nR.aload_n dX2_init_13 0 rfl ?_
  refine zR.iconst (v := 0) dX2_init_14 (by decide) ?_
  refine zR.putI dX2_init_15 (Or.inl fpX2_17) zcf2 ⟨Nat.le_of_ble_eq_true rfl, Nat.le_of_ble_eq_true rfl, rfl⟩ rfl rfl (fun _ _ => rfl) ?_
  refine nR.aload_n dX2_init_18 0 rfl ?_
  refine zR.iconst (v := 0) dX2_init_19 (by decide) ?_
  refine zR.putI dX2_init_20 (Or.inl fpX2_21) zcf2 ⟨Nat.le_of_ble_eq_true rfl, Nat.le_of_ble_eq_true rfl, rfl⟩ rfl rfl (fun _ _ => rfl) ?_
  exact zR.vret dX2_init_23
theorem dX6_init_0 : decode cX6_init 0 = .ok (.aload_n 0, 1) := by decide +kernel
theorem dX6_init_1 : decode cX6_init 1 = .ok (.invokespecial 3, 3) := by decide +kernel
theorem dX6_init_4 : decode cX6_init 4 = .ok (.aload_n 0, 1) := by decide +kernel
theorem dX6_init_5 : decode cX6_init 5 = .ok (.iconst 0, 1) := by decide +kernel
theorem dX6_init_6 : decode cX6_init 6 = .ok (.putfield 9, 3) := by decide +kernel
theorem dX6_init_9 : decode cX6_init 9 = .ok (.aload_n 0, 1) := by decide +kernel
theorem dX6_init_10 : decode cX6_init 10 = .ok (.iconst 0, 1) := by decide +kernel
theorem dX6_init_11 : decode cX6_init 11 = .ok (.putfield 15, 3) := by decide +kernel
theorem dX6_init_14 : decode cX6_init 14 = .ok (.aload_n 0, 1) := by decide +kernel
theorem dX6_init_15 : decode cX6_init 15 = .ok (.iconst 0, 1) := by decide +kernel
theorem dX6_init_16 : decode cX6_init 16 = .ok (.putfield 18, 3) := by decide +kernel
theorem dX6_init_19 : decode cX6_init 19 = .ok (.aload_n 0, 1) := by decide +kernel
theorem dX6_init_20 : decode cX6_init 20 = .ok (.iconst 0, 1) := by decide +kernel
theorem dX6_init_21 : decode cX6_init 21 = .ok (.putfield 21, 3) := by decide +kernel
theorem dX6_init_24 : decode cX6_init 24 = .ok (.aload_n 0, 1) := by decide +kernel
theorem dX6_init_25 : decode cX6_init 25 = .ok (.iconst 0, 1) := by decide +kernel
theorem dX6_init_26 : decode cX6_init 26 = .ok (.putfield 24, 3) := by decide +kernel
theorem dX6_init_29 : decode cX6_init 29 = .ok (.aload_n 0, 1) := by decide +kernel
theorem dX6_init_30 : decode cX6_init 30 = .ok (.bipush 6, 2) := by decide +kernel
theorem dX6_init_32 : decode cX6_init 32 = .ok (.newarray .int, 2) := by decide +kernel
theorem dX6_init_34 : decode cX6_init 34 = .ok (.putfield 27, 3) := by decide +kernel
theorem dX6_init_37 : decode cX6_init 37 = .ok (.aload_n 0, 1) := by decide +kernel
theorem dX6_init_38 : decode cX6_init 38 = .ok (.bipush 6, 2) := by decide +kernel
theorem dX6_init_40 : decode cX6_init 40 = .ok (.newarray .int, 2) := by decide +kernel
theorem dX6_init_42 : decode cX6_init 42 = .ok (.putfield 31, 3) := by decide +kernel
theorem dX6_init_45 : decode cX6_init 45 = .ok (.aload_n 0, 1) := by decide +kernel
theorem dX6_init_46 : decode cX6_init 46 = .ok (.bipush 6, 2) := by decide +kernel
theorem dX6_init_48 : decode cX6_init 48 = .ok (.newarray .int, 2) := by decide +kernel
theorem dX6_init_50 : decode cX6_init 50 = .ok (.putfield 34, 3) := by decide +kernel
theorem dX6_init_53 : decode cX6_init 53 = .ok (.aload_n 0, 1) := by decide +kernel
theorem dX6_init_54 : decode cX6_init 54 = .ok (.bipush 24, 2) := by decide +kernel
theorem dX6_init_56 : decode cX6_init 56 = .ok (.newarray .int, 2) := by decide +kernel
theorem dX6_init_58 : decode cX6_init 58 = .ok (.putfield 37, 3) := by decide +kernel
theorem dX6_init_61 : decode cX6_init 61 = .ok (.aload_n 0, 1) := by decide +kernel
theorem dX6_init_62 : decode cX6_init 62 = .ok (.bipush 24, 2) := by decide +kernel
theorem dX6_init_64 : decode cX6_init 64 = .ok (.newarray .int, 2) := by decide +kernel
theorem dX6_init_66 : decode cX6_init 66 = .ok (.putfield 40, 3) := by decide +kernel
theorem dX6_init_69 : decode cX6_init 69 = .ok (.aload_n 0, 1) := by decide +kernel
theorem dX6_init_70 : decode cX6_init 70 = .ok (.bipush 6, 2) := by decide +kernel
theorem dX6_init_72 : decode cX6_init 72 = .ok (.newarray .int, 2) := by decide +kernel
theorem dX6_init_74 : decode cX6_init 74 = .ok (.putfield 43, 3) := by decide +kernel
theorem dX6_init_77 : decode cX6_init 77 = .ok (.aload_n 0, 1) := by decide +kernel
theorem dX6_init_78 : decode cX6_init 78 = .ok (.bipush 6, 2) := by decide +kernel
theorem dX6_init_80 : decode cX6_init 80 = .ok (.newarray .int, 2) := by decide +kernel
theorem dX6_init_82 : decode cX6_init 82 = .ok (.putfield 46, 3) := by decide +kernel
theorem dX6_init_85 : decode cX6_init 85 = .ok (.aload_n 0, 1) := by decide +kernel
theorem dX6_init_86 : decode cX6_init 86 = .ok (.bipush 6, 2) := by decide +kernel
theorem dX6_init_88 : decode cX6_init 88 = .ok (.newarray .int, 2) := by decide +kernel
theorem dX6_init_90 : decode cX6_init 90 = .ok (.putfield 49, 3) := by decide +kernel
theorem dX6_init_93 : decode cX6_init 93 = .ok (.aload_n 0, 1) := by decide +kernel
theorem dX6_init_94 : decode cX6_init 94 = .ok (.bipush 6, 2) := by decide +kernel
theorem dX6_init_96 : decode cX6_init 96 = .ok (.newarray .int, 2) := by decide +kernel
theorem dX6_init_98 : decode cX6_init 98 = .ok (.putfield 52, 3) := by decide +kernel
theorem dX6_init_101 : decode cX6_init 101 = .ok (.aload_n 0, 1) := by decide +kernel
theorem dX6_init_102 : decode cX6_init 102 = .ok (.bipush 36, 2) := by decide +kernel
theorem dX6_init_104 : decode cX6_init 104 = .ok (.newarray .int, 2) := by decide +kernel
theorem dX6_init_106 : decode cX6_init 106 = .ok (.putfield 55, 3) := by decide +kernel
theorem dX6_init_109 : decode cX6_init 109 = .ok (.aload_n 0, 1) := by decide +kernel
theorem dX6_init_110 : decode cX6_init 110 = .ok (.new 58, 3) := by decide +kernel
theorem dX6_init_113 : decode cX6_init 113 = .ok (.dup, 1) := by decide +kernel
theorem dX6_init_114 : decode cX6_init 114 = .ok (.invokespecial 60, 3) := by decide +kernel
theorem dX6_init_117 : decode cX6_init 117 = .ok (.putfield 61, 3) := by decide +kernel
theorem dX6_init_120 : decode cX6_init 120 = .ok (.return_, 1) := by decide +kernel
theorem dX8_init_0 : decode cX8_init 0 = .ok (.aload_n 0, 1) := by decide +kernel
theorem dX8_init_1 : decode cX8_init 1 = .ok (.invokespecial 3, 3) := by decide +kernel
theorem dX8_init_4 : decode cX8_init 4 = .ok (.aload_n 0, 1) := by decide +kernel
theorem dX8_init_5 : decode cX8_init 5 = .ok (.sipush 1600, 3) := by decide +kernel
theorem dX8_init_8 : decode cX8_init 8 = .ok (.newarray .int, 2) := by decide +kernel
theorem dX8_init_10 : decode cX8_init 10 = .ok (.putfield 9, 3) := by decide +kernel
theorem dX8_init_13 : decode cX8_init 13 = .ok (.aload_n 0, 1) := by decide +kernel
theorem dX8_init_14 : decode cX8_init 14 = .ok (.bipush 64, 2) := by decide +kernel
theorem dX8_init_16 : decode cX8_init 16 = .ok (.newarray .int, 2) := by decide +kernel
theorem dX8_init_18 : decode cX8_init 18 = .ok (.putfield 15, 3) := by decide +kernel
theorem dX8_init_21 : decode cX8_init 21 = .ok (.aload_n 0, 1) := by decide +kernel
theorem dX8_init_22 : decode cX8_init 22 = .ok (.iconst 0, 1) := by decide +kernel
theorem dX8_init_23 : decode cX8_init 23 = .ok (.putfield 18, 3) := by decide +kernel
theorem dX8_init_26 : decode cX8_init 26 = .ok (.aload_n 0, 1) := by decide +kernel
theorem dX8_init_27 : decode cX8_init 27 = .ok (.iconst 0, 1) := by decide +kernel
theorem dX8_init_28 : decode cX8_init 28 = .ok (.putfield 22, 3) := by decide +kernel
theorem dX8_init_31 : decode cX8_init 31 = .ok (.aload_n 0, 1) := by decide +kernel
theorem dX8_init_32 : decode cX8_init 32 = .ok (.iconst 2, 1) := by decide +kernel
theorem dX8_init_33 : decode cX8_init 33 = .ok (.newarray .int, 2) := by decide +kernel
theorem dX8_init_35 : decode cX8_init 35 = .ok (.putfield 25, 3) := by decide +kernel
theorem dX8_init_38 : decode cX8_init 38 = .ok (.aload_n 0, 1) := by decide +kernel
theorem dX8_init_39 : decode cX8_init 39 = .ok (.iconst 2, 1) := by decide +kernel
theorem dX8_init_40 : decode cX8_init 40 = .ok (.newarray .int, 2) := by decide +kernel
theorem dX8_init_42 : decode cX8_init 42 = .ok (.putfield 28, 3) := by decide +kernel
theorem dX8_init_45 : decode cX8_init 45 = .ok (.return_, 1) := by decide +kernel
def cX8_init_20 (μ : zM) : zM := (sR (zNw (sR (zNw (sI (sI (sR (zNw (sR (zNw μ) 20 0 21)) 20 1 22) 20 2 0) 20 3 0)) 20 4 23)) 20 5 24)
set_option maxRecDepth 100000 in
theorem lX8_init_20 {sc : Nat × (Nat → Int32)} (μ : zM) (hn : μ.2.2.2 = 20) : zC (zY0 sc) 1 4 1668 mX8_init [.ref 20] μ (none, cX8_init_20 μ) := by
  obtain ⟨I, L, R, n⟩ := μ
  dsimp only at hn
  subst hn
  refine zC.of (by decide +kernel) (Nat.le_of_ble_eq_true rfl) rfl ?_
  refine nR.aload_n dX8_init_0 0 rfl ?_
  refine zR.objI dX8_init_1 (by decide) moX8_3 (by decide) (Nat.le_of_ble_eq_true rfl) ?_
  refine nR.aload_n dX8_init_4 0 rfl ?_
  refine zR.sipush (v := 1600) dX8_init_5 (by decide) ?_
  refine nR.newI (N := 1600) 21 (kc := 3) (ks := 68) dX8_init_8 ar_int rfl rfl rfl (by decide) (by decide) (by decide) (by decide) rfl rfl ?_
  refine zR.putR dX8_init_10 (Or.inr ⟨ffX8_9, rfl⟩) zcf8 ⟨Nat.le_of_ble_eq_true rfl, Nat.le_of_ble_eq_true rfl, rfl⟩ (Or.inr ⟨_, rfl⟩) ?_
  refine nR.aload_n dX8_init_13 0 rfl ?_
  refine zR.bipush (v := 64) dX8_init_14 (by decide) ?_
  refine nR.newI (N := 64) 22 (kc := 2) (ks := 4) dX8_init_16 ar_int rfl rfl rfl (by decide) (by decide) (by decide) (by decide) rfl rfl ?_
  refine zR.putR dX8_init_18 (Or.inr ⟨ffX8_15, rfl⟩) zcf8 ⟨Nat.le_of_ble_eq_true rfl, Nat.le_of_ble_eq_true rfl, rfl⟩ (Or.inr ⟨_, rfl⟩) ?_
  refine nR.aload_n dX8_init_21 0 rfl ?_
  refine zR.iconst (v := 0) dX8_init_22 (by decide) ?_
  refine zR.putI dX8_init_23 (Or.inl fpX8_18) zcf8 ⟨Nat.le_of_ble_eq_true rfl, Nat.le_of_ble_eq_true rfl, rfl⟩ rfl rfl (fun _ _ => rfl) ?_
  refine nR.aload_n dX8_init_26 0 rfl ?_
  refine zR.iconst (v := 0) dX8_init_27 (by decide) ?_
  refine zR.putI dX8_init_28 (Or.inl fpX8_22) zcf8 ⟨Nat.le_of_ble_eq_true rfl, Nat.le_of_ble_eq_true rfl, rfl⟩ rfl rfl (fun _ _ => rfl) ?_
  refine nR.aload_n dX8_init_31 0 rfl ?_
  refine zR.iconst (v := 2) dX8_init_32 (by decide) ?_
  refine nR.newI (N := 2) 23 (kc := 1) (ks := 2) dX8_init_33 ar_int rfl rfl rfl (by decide) (by decide) (by decide) (by decide) rfl rfl ?_
  refine zR.putR dX8_init_35 (Or.inr ⟨ffX8_25, rfl⟩) zcf8 ⟨Nat.le_of_ble_eq_true rfl, Nat.le_of_ble_eq_true rfl, rfl⟩ (Or.inr ⟨_, rfl⟩) ?_
  refine nR.aload_n dX8_init_38 0 rfl ?_
  refine zR.iconst (v := 2) dX8_init_39 (by decide) ?_
  refine nR.newI (N := 2) 24 (kc := 0) (ks := 0) dX8_init_40 ar_int rfl rfl rfl (by decide) (by decide) (by decide) (by decide) rfl rfl ?_
  refine zR.putR dX8_init_42 (Or.inr ⟨ffX8_28, rfl⟩) zcf8 ⟨Nat.le_of_ble_eq_true rfl, Nat.le_of_ble_eq_true rfl, rfl⟩ (Or.inr ⟨_, rfl⟩) ?_
  exact zR.vret dX8_init_45
def cX6_init_9 (μ : zM) : zM := (sR (cX8_init_20 (zNw (sR (zNw (sR (zNw (sR (zNw (sR (zNw (sR (zNw (sR (zNw (sR (zNw (sR (zNw (sR (zNw (sR (zNw (sI (sI (sI (sI (sI μ 9 0 0) 9 1 0) 9 2 0) 9 3 0) 9 4 0)) 9 5 10)) 9 6 11)) 9 7 12)) 9 8 13)) 9 9 14)) 9 10 15)) 9 11 16)) 9 12 17)) 9 13 18)) 9 14 19))) 9 15 20)
set_option maxRecDepth 100000 in
theorem lX6_init_9 {sc : Nat × (Nat → Int32)} (μ : zM) (hn : μ.2.2.2 = 9) : zC (zY0 sc) 2 15 1800 mX6_init [.ref 9] μ (none, cX6_init_9 μ) := by
  obtain ⟨I, L, R, n⟩ := μ
  dsimp only at hn
  subst hn
  refine zC.of (by decide +kernel) (Nat.le_of_ble_eq_true rfl) rfl ?_
  refine nR.aload_n dX6_init_0 0 rfl ?_
  refine zR.objI dX6_init_1 (by decide) moX6_3 (by decide) (Nat.le_of_ble_eq_true rfl) ?_
  refine nR.aload_n dX6_init_4 0 rfl ?_
  refine zR.iconst (v := 0) dX6_init_5 (by decide) ?_
  refine zR.putI dX6_init_6 (Or.inl fpX6_9) zcf6 ⟨Nat.le_of_ble_eq_true rfl, Nat.le_of_ble_eq_true rfl, rfl⟩ rfl rfl (fun _ _ => rfl) ?_
  refine nR.aload_n dX6_init_9 0 rfl ?_
  refine zR.iconst (v := 0) dX6_init_10 (by decide) ?_
  refine zR.putI dX6_init_11 (Or.inl fpX6_15) zcf6 ⟨Nat.le_of_ble_eq_true rfl, Nat.le_of_ble_eq_true rfl, rfl⟩ rfl rfl (fun _ _ => rfl) ?_
  refine nR.aload_n dX6_init_14 0 rfl ?_
  refine zR.iconst (v := 0) dX6_init_15 (by decide) ?_
  refine zR.putI dX6_init_16 (Or.inl fpX6_18) zcf6 ⟨Nat.le_of_ble_eq_true rfl, Nat.le_of_ble_eq_true rfl, rfl⟩ rfl rfl (fun _ _ => rfl) ?_
  refine nR.aload_n dX6_init_19 0 rfl ?_
  refine zR.iconst (v := 0) dX6_init_20 (by decide) ?_
  refine zR.putI dX6_init_21 (Or.inl fpX6_21) zcf6 ⟨Nat.le_of_ble_eq_true rfl, Nat.le_of_ble_eq_true rfl, rfl⟩ rfl rfl (fun _ _ => rfl) ?_
  refine nR.aload_n dX6_init_24 0 rfl ?_
  refine zR.iconst (v := 0) dX6_init_25 (by decide) ?_
  refine zR.putI dX6_init_26 (Or.inl fpX6_24) zcf6 ⟨Nat.le_of_ble_eq_true rfl, Nat.le_of_ble_eq_true rfl, rfl⟩ rfl rfl (fun _ _ => rfl) ?_
  refine nR.aload_n dX6_init_29 0 rfl ?_
  refine zR.bipush (v := 6) dX6_init_30 (by decide) ?_
  refine nR.newI (N := 6) 10 (kc := 14) (ks := 1794) dX6_init_32 ar_int rfl rfl rfl (by decide) (by decide) (by decide) (by decide) rfl rfl ?_
  refine zR.putR dX6_init_34 (Or.inr ⟨ffX6_27, rfl⟩) zcf6 ⟨Nat.le_of_ble_eq_true rfl, Nat.le_of_ble_eq_true rfl, rfl⟩ (Or.inr ⟨_, rfl⟩) ?_
  refine nR.aload_n dX6_init_37 0 rfl ?_
  refine zR.bipush (v := 6) dX6_init_38 (by decide) ?_
  refine nR.newI (N := 6) 11 (kc := 13) (ks := 1788) dX6_init_40 ar_int rfl rfl rfl (by decide) (by decide) (by decide) (by decide) rfl rfl ?_
  refine zR.putR dX6_init_42 (Or.inr ⟨ffX6_31, rfl⟩) zcf6 ⟨Nat.le_of_ble_eq_true rfl, Nat.le_of_ble_eq_true rfl, rfl⟩ (Or.inr ⟨_, rfl⟩) ?_
  refine nR.aload_n dX6_init_45 0 rfl ?_
  refine zR.bipush (v := 6) dX6_init_46 (by decide) ?_
  refine nR.newI (N := 6) 12 (kc := 12) (ks := 1782) dX6_init_48 ar_int rfl rfl rfl (by decide) (by decide) (by decide) (by decide) rfl rfl ?_
  refine zR.putR dX6_init_50 (Or.inr ⟨ffX6_34, rfl⟩) zcf6 ⟨Nat.le_of_ble_eq_true rfl, Nat.le_of_ble_eq_true rfl, rfl⟩ (Or.inr ⟨_, rfl⟩) ?_
  refine nR.aload_n dX6_init_53 0 rfl ?_
  refine zR.bipush (v := 24) dX6_init_54 (by decide) ?_
  refine nR.newI (N := 24) 13 (kc := 11) (ks := 1758) dX6_init_56 ar_int rfl rfl rfl (by decide) (by decide) (by decide) (by decide) rfl rfl ?_
  refine zR.putR dX6_init_58 (Or.inr ⟨ffX6_37, rfl⟩) zcf6 ⟨Nat.le_of_ble_eq_true rfl, Nat.le_of_ble_eq_true rfl, rfl⟩ (Or.inr ⟨_, rfl⟩) ?_
  refine nR.aload_n dX6_init_61 0 rfl ?_
  refine zR.bipush (v := 24) dX6_init_62 (by decide) ?_
  refine nR.newI (N := 24) 14 (kc := 10) (ks := 1734) dX6_init_64 ar_int rfl rfl rfl (by decide) (by decide) (by decide) (by decide) rfl rfl ?_
  refine zR.putR dX6_init_66 (Or.inr ⟨ffX6_40, rfl⟩) zcf6 ⟨Nat.le_of_ble_eq_true rfl, Nat.le_of_ble_eq_true rfl, rfl⟩ (Or.inr ⟨_, rfl⟩) ?_
  refine nR.aload_n dX6_init_69 0 rfl ?_
  refine zR.bipush (v := 6) dX6_init_70 (by decide) ?_
  refine nR.newI (N := 6) 15 (kc := 9) (ks := 1728) dX6_init_72 ar_int rfl rfl rfl (by decide) (by decide) (by decide) (by decide) rfl rfl ?_
  refine zR.putR dX6_init_74 (Or.inr ⟨ffX6_43, rfl⟩) zcf6 ⟨Nat.le_of_ble_eq_true rfl, Nat.le_of_ble_eq_true rfl, rfl⟩ (Or.inr ⟨_, rfl⟩) ?_
  refine nR.aload_n dX6_init_77 0 rfl ?_
  refine zR.bipush (v := 6) dX6_init_78 (by decide) ?_
  refine nR.newI (N := 6) 16 (kc := 8) (ks := 1722) dX6_init_80 ar_int rfl rfl rfl (by decide) (by decide) (by decide) (by decide) rfl rfl ?_
  refine zR.putR dX6_init_82 (Or.inr ⟨ffX6_46, rfl⟩) zcf6 ⟨Nat.le_of_ble_eq_true rfl, Nat.le_of_ble_eq_true rfl, rfl⟩ (Or.inr ⟨_, rfl⟩) ?_
  refine nR.aload_n dX6_init_85 0 rfl ?_
  refine zR.bipush (v := 6) dX6_init_86 (by decide) ?_
  refine nR.newI (N := 6) 17 (kc := 7) (ks := 1716) dX6_init_88 ar_int rfl rfl rfl (by decide) (by decide) (by decide) (by decide) rfl rfl ?_
  refine zR.putR dX6_init_90 (Or.inr ⟨ffX6_49, rfl⟩) zcf6 ⟨Nat.le_of_ble_eq_true rfl, Nat.le_of_ble_eq_true rfl, rfl⟩ (Or.inr ⟨_, rfl⟩) ?_
  refine nR.aload_n dX6_init_93 0 rfl ?_
  refine zR.bipush (v := 6) dX6_init_94 (by decide) ?_
  refine nR.newI (N := 6) 18 (kc := 6) (ks := 1710) dX6_init_96 ar_int rfl rfl rfl (by decide) (by decide) (by decide) (by decide) rfl rfl ?_
  refine zR.putR dX6_init_98 (Or.inr ⟨ffX6_52, rfl⟩) zcf6 ⟨Nat.le_of_ble_eq_true rfl, Nat.le_of_ble_eq_true rfl, rfl⟩ (Or.inr ⟨_, rfl⟩) ?_
  refine nR.aload_n dX6_init_101 0 rfl ?_
  refine zR.bipush (v := 36) dX6_init_102 (by decide) ?_
  refine nR.newI (N := 36) 19 (kc := 5) (ks := 1674) dX6_init_104 ar_int rfl rfl rfl (by decide) (by decide) (by decide) (by decide) rfl rfl ?_
  refine zR.putR dX6_init_106 (Or.inr ⟨ffX6_55, rfl⟩) zcf6 ⟨Nat.le_of_ble_eq_true rfl, Nat.le_of_ble_eq_true rfl, rfl⟩ (Or.inr ⟨_, rfl⟩) ?_
  refine nR.aload_n dX6_init_109 0 rfl ?_
  refine nR.new 20 (kc := 4) (ks := 1668) dX6_init_110 zcf8 nwX6_58 rfl rfl (by decide) rfl rfl ?_
  refine zR.dup dX6_init_113 rfl ?_
  refine nR.callI (kc := 0) (ks := 0) [] dX6_init_114 rfl (by decide) miX6_60 (by decide) rfl (Nat.le_of_ble_eq_true rfl) (lX8_init_20 _ rfl) rfl rfl ?_
  refine zR.putR dX6_init_117 (Or.inr ⟨ffX6_61, rfl⟩) zcf6 ⟨Nat.le_of_ble_eq_true rfl, Nat.le_of_ble_eq_true rfl, rfl⟩ (Or.inl ⟨_, rfl⟩) ?_
  exact zR.vret dX6_init_120
theorem dX4_init_0 : decode cX4_init 0 = .ok (.aload_n 0, 1) := by decide +kernel
theorem dX4_init_1 : decode cX4_init 1 = .ok (.invokespecial 3, 3) := by decide +kernel
theorem dX4_init_4 : decode cX4_init 4 = .ok (.aload_n 0, 1) := by decide +kernel
theorem dX4_init_5 : decode cX4_init 5 = .ok (.bipush 6, 2) := by decide +kernel
theorem dX4_init_7 : decode cX4_init 7 = .ok (.newarray .int, 2) := by decide +kernel
theorem dX4_init_9 : decode cX4_init 9 = .ok (.putfield 9, 3) := by decide +kernel
theorem dX4_init_12 : decode cX4_init 12 = .ok (.aload_n 0, 1) := by decide +kernel
theorem dX4_init_13 : decode cX4_init 13 = .ok (.bipush 7, 2) := by decide +kernel
theorem dX4_init_15 : decode cX4_init 15 = .ok (.newarray .int, 2) := by decide +kernel
theorem dX4_init_17 : decode cX4_init 17 = .ok (.putfield 15, 3) := by decide +kernel
theorem dX4_init_20 : decode cX4_init 20 = .ok (.aload_n 0, 1) := by decide +kernel
theorem dX4_init_21 : decode cX4_init 21 = .ok (.aload_n 1, 1) := by decide +kernel
theorem dX4_init_22 : decode cX4_init 22 = .ok (.putfield 18, 3) := by decide +kernel
theorem dX4_init_25 : decode cX4_init 25 = .ok (.aload_n 0, 1) := by decide +kernel
theorem dX4_init_26 : decode cX4_init 26 = .ok (.aload_n 2, 1) := by decide +kernel
theorem dX4_init_27 : decode cX4_init 27 = .ok (.putfield 22, 3) := by decide +kernel
theorem dX4_init_30 : decode cX4_init 30 = .ok (.return_, 1) := by decide +kernel
def cX4_init_8 (μ : zM) : zM := (sR (sR (sR (zNw (sR (zNw μ) 8 2 25)) 8 3 26) 8 1 4) 8 0 9)
set_option maxRecDepth 100000 in
theorem lX4_init_8 {sc : Nat × (Nat → Int32)} (μ : zM) (hn : μ.2.2.2 = 24) : zC (zY0 sc) 1 2 13 mX4_init [.ref 8, .ref 4, .ref 9] μ (none, cX4_init_8 μ) := by
  obtain ⟨I, L, R, n⟩ := μ
  dsimp only at hn
  subst hn
  refine zC.of (by decide +kernel) (Nat.le_of_ble_eq_true rfl) rfl ?_
  refine nR.aload_n dX4_init_0 0 rfl ?_
  refine zR.objI dX4_init_1 (by decide) moX4_3 (by decide) (Nat.le_of_ble_eq_true rfl) ?_
  refine nR.aload_n dX4_init_4 0 rfl ?_
  refine zR.bipush (v := 6) dX4_init_5 (by decide) ?_
  refine nR.newI (N := 6) 25 (kc := 1) (ks := 7) dX4_init_7 ar_int rfl rfl rfl (by decide) (by decide) (by decide) (by decide) rfl rfl ?_
  refine zR.putR dX4_init_9 (Or.inr ⟨ffX4_9, rfl⟩) zcf4 ⟨Nat.le_of_ble_eq_true rfl, Nat.le_of_ble_eq_true rfl, rfl⟩ (Or.inr ⟨_, rfl⟩) ?_
  refine nR.aload_n dX4_init_12 0 rfl ?_
  refine zR.bipush (v := 7) dX4_init_13 (by decide) ?_
  refine nR.newI (N := 7) 26 (kc := 0) (ks := 0) dX4_init_15 ar_int rfl rfl rfl (by decide) (by decide) (by decide) (by decide) rfl rfl ?_
  refine zR.putR dX4_init_17 (Or.inr ⟨ffX4_15, rfl⟩) zcf4 ⟨Nat.le_of_ble_eq_true rfl, Nat.le_of_ble_eq_true rfl, rfl⟩ (Or.inr ⟨_, rfl⟩) ?_
  refine nR.aload_n dX4_init_20 0 rfl ?_
  refine nR.aload_n dX4_init_21 1 rfl ?_
  refine zR.putR dX4_init_22 (Or.inr ⟨ffX4_18, rfl⟩) zcf4 ⟨Nat.le_of_ble_eq_true rfl, Nat.le_of_ble_eq_true rfl, rfl⟩ (Or.inl ⟨_, rfl⟩) ?_
  refine nR.aload_n dX4_init_25 0 rfl ?_
  refine nR.aload_n dX4_init_26 2 rfl ?_
  refine zR.putR dX4_init_27 (Or.inl fpX4_22) zcf4 ⟨Nat.le_of_ble_eq_true rfl, Nat.le_of_ble_eq_true rfl, rfl⟩ (Or.inl ⟨_, rfl⟩) ?_
  exact zR.vret dX4_init_30
theorem dX0_init_0 : decode cX0_init 0 = .ok (.aload_n 0, 1) := by decide +kernel
theorem dX0_init_1 : decode cX0_init 1 = .ok (.invokespecial 3, 3) := by decide +kernel
theorem dX0_init_4 : decode cX0_init 4 = .ok (.aload_n 0, 1) := by decide +kernel
theorem dX0_init_5 : decode cX0_init 5 = .ok (.sipush 244, 3) := by decide +kernel
theorem dX0_init_8 : decode cX0_init 8 = .ok (.newarray .long, 2) := by decide +kernel
theorem dX0_init_10 : decode cX0_init 10 = .ok (.putfield 9, 3) := by decide +kernel
theorem dX0_init_13 : decode cX0_init 13 = .ok (.aload_n 0, 1) := by decide +kernel
theorem dX0_init_14 : decode cX0_init 14 = .ok (.sipush 244, 3) := by decide +kernel
theorem dX0_init_17 : decode cX0_init 17 = .ok (.newarray .long, 2) := by decide +kernel
theorem dX0_init_19 : decode cX0_init 19 = .ok (.putfield 15, 3) := by decide +kernel
theorem dX0_init_22 : decode cX0_init 22 = .ok (.aload_n 0, 1) := by decide +kernel
theorem dX0_init_23 : decode cX0_init 23 = .ok (.iconst 5, 1) := by decide +kernel
theorem dX0_init_24 : decode cX0_init 24 = .ok (.newarray .long, 2) := by decide +kernel
theorem dX0_init_26 : decode cX0_init 26 = .ok (.putfield 18, 3) := by decide +kernel
theorem dX0_init_29 : decode cX0_init 29 = .ok (.aload_n 0, 1) := by decide +kernel
theorem dX0_init_30 : decode cX0_init 30 = .ok (.iconst (-1), 1) := by decide +kernel
theorem dX0_init_31 : decode cX0_init 31 = .ok (.putfield 21, 3) := by decide +kernel
theorem dX0_init_34 : decode cX0_init 34 = .ok (.aload_n 0, 1) := by decide +kernel
theorem dX0_init_35 : decode cX0_init 35 = .ok (.iconst 0, 1) := by decide +kernel
theorem dX0_init_36 : decode cX0_init 36 = .ok (.putfield 25, 3) := by decide +kernel
theorem dX0_init_39 : decode cX0_init 39 = .ok (.aload_n 0, 1) := by decide +kernel
theorem dX0_init_40 : decode cX0_init 40 = .ok (.iconst 0, 1) := by decide +kernel
theorem dX0_init_41 : decode cX0_init 41 = .ok (.putfield 28, 3) := by decide +kernel
theorem dX0_init_44 : decode cX0_init 44 = .ok (.aload_n 0, 1) := by decide +kernel
theorem dX0_init_45 : decode cX0_init 45 = .ok (.iconst 0, 1) := by decide +kernel
theorem dX0_init_46 : decode cX0_init 46 = .ok (.putfield 31, 3) := by decide +kernel
theorem dX0_init_49 : decode cX0_init 49 = .ok (.aload_n 0, 1) := by decide +kernel
theorem dX0_init_50 : decode cX0_init 50 = .ok (.lconst 0, 1) := by decide +kernel
theorem dX0_init_51 : decode cX0_init 51 = .ok (.putfield 34, 3) := by decide +kernel
theorem dX0_init_54 : decode cX0_init 54 = .ok (.aload_n 0, 1) := by decide +kernel
theorem dX0_init_55 : decode cX0_init 55 = .ok (.lconst 1, 1) := by decide +kernel
theorem dX0_init_56 : decode cX0_init 56 = .ok (.putfield 38, 3) := by decide +kernel
theorem dX0_init_59 : decode cX0_init 59 = .ok (.aload_n 0, 1) := by decide +kernel
theorem dX0_init_60 : decode cX0_init 60 = .ok (.iconst (-1), 1) := by decide +kernel
theorem dX0_init_61 : decode cX0_init 61 = .ok (.putfield 41, 3) := by decide +kernel
theorem dX0_init_64 : decode cX0_init 64 = .ok (.aload_n 0, 1) := by decide +kernel
theorem dX0_init_65 : decode cX0_init 65 = .ok (.bipush 6, 2) := by decide +kernel
theorem dX0_init_67 : decode cX0_init 67 = .ok (.newarray .int, 2) := by decide +kernel
theorem dX0_init_69 : decode cX0_init 69 = .ok (.putfield 44, 3) := by decide +kernel
theorem dX0_init_72 : decode cX0_init 72 = .ok (.aload_n 0, 1) := by decide +kernel
theorem dX0_init_73 : decode cX0_init 73 = .ok (.iconst 0, 1) := by decide +kernel
theorem dX0_init_74 : decode cX0_init 74 = .ok (.putfield 48, 3) := by decide +kernel
theorem dX0_init_77 : decode cX0_init 77 = .ok (.aload_n 0, 1) := by decide +kernel
theorem dX0_init_78 : decode cX0_init 78 = .ok (.aload_n 1, 1) := by decide +kernel
theorem dX0_init_79 : decode cX0_init 79 = .ok (.putfield 51, 3) := by decide +kernel
theorem dX0_init_82 : decode cX0_init 82 = .ok (.return_, 1) := by decide +kernel
def cX0_init_27 (μ : zM) : zM := (sR (sI (sR (zNw (sI (sL (sL (sI (sI (sI (sI (sR (zNw (sR (zNw (sR (zNw μ) 27 1 28)) 27 2 29)) 27 3 30) 27 4 (-1)) 27 5 0) 27 6 0) 27 7 0) 27 8 0) 27 9 1) 27 10 (-1))) 27 11 31) 27 12 0) 27 0 8)
set_option maxRecDepth 100000 in
theorem lX0_init_27 {sc : Nat × (Nat → Int32)} (μ : zM) (hn : μ.2.2.2 = 27) : zC (zY0 sc) 1 4 499 mX0_init [.ref 27, .ref 8] μ (none, cX0_init_27 μ) := by
  obtain ⟨I, L, R, n⟩ := μ
  dsimp only at hn
  subst hn
  refine zC.of (by decide +kernel) (Nat.le_of_ble_eq_true rfl) rfl ?_
  refine nR.aload_n dX0_init_0 0 rfl ?_
  refine zR.objI dX0_init_1 (by decide) moX0_3 (by decide) (Nat.le_of_ble_eq_true rfl) ?_
  refine nR.aload_n dX0_init_4 0 rfl ?_
  refine zR.sipush (v := 244) dX0_init_5 (by decide) ?_
  refine nR.newL (N := 244) 28 (kc := 3) (ks := 255) dX0_init_8 ar_long rfl rfl rfl (by decide) (by decide) (by decide) (by decide) rfl rfl ?_
  refine zR.putR dX0_init_10 (Or.inr ⟨ffX0_9, rfl⟩) zcf0 ⟨Nat.le_of_ble_eq_true rfl, Nat.le_of_ble_eq_true rfl, rfl⟩ (Or.inr ⟨_, rfl⟩) ?_
  refine nR.aload_n dX0_init_13 0 rfl ?_
  refine zR.sipush (v := 244) dX0_init_14 (by decide) ?_
  refine nR.newL (N := 244) 29 (kc := 2) (ks := 11) dX0_init_17 ar_long rfl rfl rfl (by decide) (by decide) (by decide) (by decide) rfl rfl ?_
  refine zR.putR dX0_init_19 (Or.inr ⟨ffX0_15, rfl⟩) zcf0 ⟨Nat.le_of_ble_eq_true rfl, Nat.le_of_ble_eq_true rfl, rfl⟩ (Or.inr ⟨_, rfl⟩) ?_
  refine nR.aload_n dX0_init_22 0 rfl ?_
  refine zR.iconst (v := 5) dX0_init_23 (by decide) ?_
  refine nR.newL (N := 5) 30 (kc := 1) (ks := 6) dX0_init_24 ar_long rfl rfl rfl (by decide) (by decide) (by decide) (by decide) rfl rfl ?_
  refine zR.putR dX0_init_26 (Or.inr ⟨ffX0_18, rfl⟩) zcf0 ⟨Nat.le_of_ble_eq_true rfl, Nat.le_of_ble_eq_true rfl, rfl⟩ (Or.inr ⟨_, rfl⟩) ?_
  refine nR.aload_n dX0_init_29 0 rfl ?_
  refine zR.iconst (v := (-1)) dX0_init_30 (by decide) ?_
  refine zR.putI dX0_init_31 (Or.inl fpX0_21) zcf0 ⟨Nat.le_of_ble_eq_true rfl, Nat.le_of_ble_eq_true rfl, rfl⟩ rfl rfl (fun _ _ => rfl) ?_
  refine nR.aload_n dX0_init_34 0 rfl ?_
  refine zR.iconst (v := 0) dX0_init_35 (by decide) ?_
  refine zR.putI dX0_init_36 (Or.inl fpX0_25) zcf0 ⟨Nat.le_of_ble_eq_true rfl, Nat.le_of_ble_eq_true rfl, rfl⟩ rfl rfl (fun _ _ => rfl) ?_
  refine nR.aload_n dX0_init_39 0 rfl ?_
  refine zR.iconst (v := 0) dX0_init_40 (by decide) ?_
  refine zR.putI dX0_init_41 (Or.inl fpX0_28) zcf0 ⟨Nat.le_of_ble_eq_true rfl, Nat.le_of_ble_eq_true rfl, rfl⟩ rfl rfl (fun _ _ => rfl) ?_
  refine nR.aload_n dX0_init_44 0 rfl ?_
  refine zR.iconst (v := 0) dX0_init_45 (by decide) ?_
  refine zR.putI dX0_init_46 (Or.inl fpX0_31) zcf0 ⟨Nat.le_of_ble_eq_true rfl, Nat.le_of_ble_eq_true rfl, rfl⟩ rfl rfl (fun _ _ => rfl) ?_
  refine nR.aload_n dX0_init_49 0 rfl ?_
  refine zR.lconst (v := 0) dX0_init_50 (by decide) ?_
  refine zR.putL dX0_init_51 (Or.inl fpX0_34) zcf0 ⟨Nat.le_of_ble_eq_true rfl, Nat.le_of_ble_eq_true rfl, rfl⟩ rfl ?_
  refine nR.aload_n dX0_init_54 0 rfl ?_
  refine zR.lconst (v := 1) dX0_init_55 (by decide) ?_
  refine zR.putL dX0_init_56 (Or.inl fpX0_38) zcf0 ⟨Nat.le_of_ble_eq_true rfl, Nat.le_of_ble_eq_true rfl, rfl⟩ rfl ?_
  refine nR.aload_n dX0_init_59 0 rfl ?_
  refine zR.iconst (v := (-1)) dX0_init_60 (by decide) ?_
  refine zR.putI dX0_init_61 (Or.inl fpX0_41) zcf0 ⟨Nat.le_of_ble_eq_true rfl, Nat.le_of_ble_eq_true rfl, rfl⟩ rfl rfl (fun _ _ => rfl) ?_
  refine nR.aload_n dX0_init_64 0 rfl ?_
  refine zR.bipush (v := 6) dX0_init_65 (by decide) ?_
  refine nR.newI (N := 6) 31 (kc := 0) (ks := 0) dX0_init_67 ar_int rfl rfl rfl (by decide) (by decide) (by decide) (by decide) rfl rfl ?_
  refine zR.putR dX0_init_69 (Or.inr ⟨ffX0_44, rfl⟩) zcf0 ⟨Nat.le_of_ble_eq_true rfl, Nat.le_of_ble_eq_true rfl, rfl⟩ (Or.inr ⟨_, rfl⟩) ?_
  refine nR.aload_n dX0_init_72 0 rfl ?_
  refine zR.iconst (v := 0) dX0_init_73 (by decide) ?_
  refine zR.putI dX0_init_74 (Or.inl fpX0_48) zcf0 ⟨Nat.le_of_ble_eq_true rfl, Nat.le_of_ble_eq_true rfl, rfl⟩ rfl rfl (fun _ _ => rfl) ?_
  refine nR.aload_n dX0_init_77 0 rfl ?_
  refine nR.aload_n dX0_init_78 1 rfl ?_
  refine zR.putR dX0_init_79 (Or.inr ⟨ffX0_51, rfl⟩) zcf0 ⟨Nat.le_of_ble_eq_true rfl, Nat.le_of_ble_eq_true rfl, rfl⟩ (Or.inl ⟨_, rfl⟩) ?_
  exact zR.vret dX0_init_82
theorem dX1_init_0 : decode cX1_init 0 = .ok (.aload_n 0, 1) := by decide +kernel
theorem dX1_init_1 : decode cX1_init 1 = .ok (.invokespecial 3, 3) := by decide +kernel
theorem dX1_init_4 : decode cX1_init 4 = .ok (.aload_n 0, 1) := by decide +kernel
theorem dX1_init_5 : decode cX1_init 5 = .ok (.bipush 12, 2) := by decide +kernel
theorem dX1_init_7 : decode cX1_init 7 = .ok (.newarray .int, 2) := by decide +kernel
theorem dX1_init_9 : decode cX1_init 9 = .ok (.putfield 9, 3) := by decide +kernel
theorem dX1_init_12 : decode cX1_init 12 = .ok (.aload_n 0, 1) := by decide +kernel
theorem dX1_init_13 : decode cX1_init 13 = .ok (.bipush 12, 2) := by decide +kernel
theorem dX1_init_15 : decode cX1_init 15 = .ok (.newarray .int, 2) := by decide +kernel
theorem dX1_init_17 : decode cX1_init 17 = .ok (.putfield 15, 3) := by decide +kernel
theorem dX1_init_20 : decode cX1_init 20 = .ok (.aload_n 0, 1) := by decide +kernel
theorem dX1_init_21 : decode cX1_init 21 = .ok (.iconst 0, 1) := by decide +kernel
theorem dX1_init_22 : decode cX1_init 22 = .ok (.putfield 18, 3) := by decide +kernel
theorem dX1_init_25 : decode cX1_init 25 = .ok (.aload_n 0, 1) := by decide +kernel
theorem dX1_init_26 : decode cX1_init 26 = .ok (.iconst 0, 1) := by decide +kernel
theorem dX1_init_27 : decode cX1_init 27 = .ok (.putfield 22, 3) := by decide +kernel
theorem dX1_init_30 : decode cX1_init 30 = .ok (.return_, 1) := by decide +kernel
def cX1_init_32 (μ : zM) : zM := (sI (sI (sR (zNw (sR (zNw μ) 32 0 33)) 32 1 34) 32 2 0) 32 3 0)
set_option maxRecDepth 100000 in
theorem lX1_init_32 {sc : Nat × (Nat → Int32)} (μ : zM) (hn : μ.2.2.2 = 32) : zC (zY0 sc) 1 2 24 mX1_init [.ref 32] μ (none, cX1_init_32 μ) := by
  obtain ⟨I, L, R, n⟩ := μ
  dsimp only at hn
  subst hn
  refine zC.of (by decide +kernel) (Nat.le_of_ble_eq_true rfl) rfl ?_
  refine nR.aload_n dX1_init_0 0 rfl ?_
  refine zR.objI dX1_init_1 (by decide) moX1_3 (by decide) (Nat.le_of_ble_eq_true rfl) ?_
  refine nR.aload_n dX1_init_4 0 rfl ?_
  refine zR.bipush (v := 12) dX1_init_5 (by decide) ?_
  refine nR.newI (N := 12) 33 (kc := 1) (ks := 12) dX1_init_7 ar_int rfl rfl rfl (by decide) (by decide) (by decide) (by decide) rfl rfl ?_
  refine zR.putR dX1_init_9 (Or.inr ⟨ffX1_9, rfl⟩) zcf1 ⟨Nat.le_of_ble_eq_true rfl, Nat.le_of_ble_eq_true rfl, rfl⟩ (Or.inr ⟨_, rfl⟩) ?_
  refine nR.aload_n dX1_init_12 0 rfl ?_
  refine zR.bipush (v := 12) dX1_init_13 (by decide) ?_
  refine nR.newI (N := 12) 34 (kc := 0) (ks := 0) dX1_init_15 ar_int rfl rfl rfl (by decide) (by decide) (by decide) (by decide) rfl rfl ?_
  refine zR.putR dX1_init_17 (Or.inr ⟨ffX1_15, rfl⟩) zcf1 ⟨Nat.le_of_ble_eq_true rfl, Nat.le_of_ble_eq_true rfl, rfl⟩ (Or.inr ⟨_, rfl⟩) ?_
  refine nR.aload_n dX1_init_20 0 rfl ?_
  refine zR.iconst (v := 0) dX1_init_21 (by decide) ?_
  refine zR.putI dX1_init_22 (Or.inl fpX1_18) zcf1 ⟨Nat.le_of_ble_eq_true rfl, Nat.le_of_ble_eq_true rfl, rfl⟩ rfl rfl (fun _ _ => rfl) ?_
  refine nR.aload_n dX1_init_25 0 rfl ?_
  refine zR.iconst (v := 0) dX1_init_26 (by decide) ?_
  refine zR.putI dX1_init_27 (Or.inl fpX1_22) zcf1 ⟨Nat.le_of_ble_eq_true rfl, Nat.le_of_ble_eq_true rfl, rfl⟩ rfl rfl (fun _ _ => rfl) ?_
  exact zR.vret dX1_init_30
theorem dX3_init_0 : decode cX3_init 0 = .ok (.aload_n 0, 1) := by decide +kernel
theorem dX3_init_1 : decode cX3_init 1 = .ok (.invokespecial 3, 3) := by decide +kernel
theorem dX3_init_4 : decode cX3_init 4 = .ok (.aload_n 0, 1) := by decide +kernel
theorem dX3_init_5 : decode cX3_init 5 = .ok (.bipush 68, 2) := by decide +kernel
theorem dX3_init_7 : decode cX3_init 7 = .ok (.newarray .int, 2) := by decide +kernel
theorem dX3_init_9 : decode cX3_init 9 = .ok (.putfield 11, 3) := by decide +kernel
theorem dX3_init_12 : decode cX3_init 12 = .ok (.aload_n 0, 1) := by decide +kernel
theorem dX3_init_13 : decode cX3_init 13 = .ok (.iconst 0, 1) := by decide +kernel
theorem dX3_init_14 : decode cX3_init 14 = .ok (.putfield 15, 3) := by decide +kernel
theorem dX3_init_17 : decode cX3_init 17 = .ok (.return_, 1) := by decide +kernel
def cX3_init_35 (μ : zM) : zM := (sI (sR (zNw μ) 35 0 36) 35 1 0)
set_option maxRecDepth 100000 in
theorem lX3_init_35 {sc : Nat × (Nat → Int32)} (μ : zM) (hn : μ.2.2.2 = 35) : zC (zY0 sc) 1 1 68 mX3_init [.ref 35] μ (none, cX3_init_35 μ) := by
  obtain ⟨I, L, R, n⟩ := μ
  dsimp only at hn
  subst hn
  refine zC.of (by decide +kernel) (Nat.le_of_ble_eq_true rfl) rfl ?_
  refine nR.aload_n dX3_init_0 0 rfl ?_
  refine zR.objI dX3_init_1 (by decide) moX3_3 (by decide) (Nat.le_of_ble_eq_true rfl) ?_
  refine nR.aload_n dX3_init_4 0 rfl ?_
  refine zR.bipush (v := 68) dX3_init_5 (by decide) ?_
  refine nR.newI (N := 68) 36 (kc := 0) (ks := 0) dX3_init_7 ar_int rfl rfl rfl (by decide) (by decide) (by decide) (by decide) rfl rfl ?_
  refine zR.putR dX3_init_9 (Or.inr ⟨ffX3_11, rfl⟩) zcf3 ⟨Nat.le_of_ble_eq_true rfl, Nat.le_of_ble_eq_true rfl, rfl⟩ (Or.inr ⟨_, rfl⟩) ?_
  refine nR.aload_n dX3_init_12 0 rfl ?_
  refine zR.iconst (v := 0) dX3_init_13 (by decide) ?_
  refine zR.putI dX3_init_14 (Or.inl fpX3_15) zcf3 ⟨Nat.le_of_ble_eq_true rfl, Nat.le_of_ble_eq_true rfl, rfl⟩ rfl rfl (fun _ _ => rfl) ?_
  exact zR.vret dX3_init_17
def cX8_init_49 (μ : zM) : zM := (sR (zNw (sR (zNw (sI (sI (sR (zNw (sR (zNw μ) 49 0 50)) 49 1 51) 49 2 0) 49 3 0)) 49 4 52)) 49 5 53)
set_option maxRecDepth 100000 in
theorem lX8_init_49 {sc : Nat × (Nat → Int32)} (μ : zM) (hn : μ.2.2.2 = 49) : zC (zY0 sc) 1 4 1668 mX8_init [.ref 49] μ (none, cX8_init_49 μ) := by
  obtain ⟨I, L, R, n⟩ := μ
  dsimp only at hn
  subst hn
  refine zC.of (by decide +kernel) (Nat.le_of_ble_eq_true rfl) rfl ?_
  refine nR.aload_n dX8_init_0 0 rfl ?_
  refine zR.objI dX8_init_1 (by decide) moX8_3 (by decide) (Nat.le_of_ble_eq_true rfl) ?_
  refine nR.aload_n dX8_init_4 0 rfl ?_
  refine zR.sipush (v := 1600) dX8_init_5 (by decide) ?_
  refine nR.newI (N := 1600) 50 (kc := 3) (ks := 68) dX8_init_8 ar_int rfl rfl rfl (by decide) (by decide) (by decide) (by decide) rfl rfl ?_
  refine zR.putR dX8_init_10 (Or.inr ⟨ffX8_9, rfl⟩) zcf8 ⟨Nat.le_of_ble_eq_true rfl, Nat.le_of_ble_eq_true rfl, rfl⟩ (Or.inr ⟨_, rfl⟩) ?_
  refine nR.aload_n dX8_init_13 0 rfl ?_
  refine zR.bipush (v := 64) dX8_init_14 (by decide) ?_
  refine nR.newI (N := 64) 51 (kc := 2) (ks := 4) dX8_init_16 ar_int rfl rfl rfl (by decide) (by decide) (by decide) (by decide) rfl rfl ?_
  refine zR.putR dX8_init_18 (Or.inr ⟨ffX8_15, rfl⟩) zcf8 ⟨Nat.le_of_ble_eq_true rfl, Nat.le_of_ble_eq_true rfl, rfl⟩ (Or.inr ⟨_, rfl⟩) ?_
  refine nR.aload_n dX8_init_21 0 rfl ?_
  refine zR.iconst (v := 0) dX8_init_22 (by decide) ?_
  refine zR.putI dX8_init_23 (Or.inl fpX8_18) zcf8 ⟨Nat.le_of_ble_eq_true rfl, Nat.le_of_ble_eq_true rfl, rfl⟩ rfl rfl (fun _ _ => rfl) ?_
  refine nR.aload_n dX8_init_26 0 rfl ?_
  refine zR.iconst (v := 0) dX8_init_27 (by decide) ?_
  refine zR.putI dX8_init_28 (Or.inl fpX8_22) zcf8 ⟨Nat.le_of_ble_eq_true rfl, Nat.le_of_ble_eq_true rfl, rfl⟩ rfl rfl (fun _ _ => rfl) ?_
  refine nR.aload_n dX8_init_31 0 rfl ?_
  refine zR.iconst (v := 2) dX8_init_32 (by decide) ?_
  refine nR.newI (N := 2) 52 (kc := 1) (ks := 2) dX8_init_33 ar_int rfl rfl rfl (by decide) (by decide) (by decide) (by decide) rfl rfl ?_
  refine zR.putR dX8_init_35 (Or.inr ⟨ffX8_25, rfl⟩) zcf8 ⟨Nat.le_of_ble_eq_true rfl, Nat.le_of_ble_eq_true rfl, rfl⟩ (Or.inr ⟨_, rfl⟩) ?_
  refine nR.aload_n dX8_init_38 0 rfl ?_
  refine zR.iconst (v := 2) dX8_init_39 (by decide) ?_
  refine nR.newI (N := 2) 53 (kc := 0) (ks := 0) dX8_init_40 ar_int rfl rfl rfl (by decide) (by decide) (by decide) (by decide) rfl rfl ?_
  refine zR.putR dX8_init_42 (Or.inr ⟨ffX8_28, rfl⟩) zcf8 ⟨Nat.le_of_ble_eq_true rfl, Nat.le_of_ble_eq_true rfl, rfl⟩ (Or.inr ⟨_, rfl⟩) ?_
  exact zR.vret dX8_init_45
def cX6_init_38 (μ : zM) : zM := (sR (cX8_init_49 (zNw (sR (zNw (sR (zNw (sR (zNw (sR (zNw (sR (zNw (sR (zNw (sR (zNw (sR (zNw (sR (zNw (sR (zNw (sI (sI (sI (sI (sI μ 38 0 0) 38 1 0) 38 2 0) 38 3 0) 38 4 0)) 38 5 39)) 38 6 40)) 38 7 41)) 38 8 42)) 38 9 43)) 38 10 44)) 38 11 45)) 38 12 46)) 38 13 47)) 38 14 48))) 38 15 49)
set_option maxRecDepth 100000 in
theorem lX6_init_38 {sc : Nat × (Nat → Int32)} (μ : zM) (hn : μ.2.2.2 = 38) : zC (zY0 sc) 2 15 1800 mX6_init [.ref 38] μ (none, cX6_init_38 μ) := by
  obtain ⟨I, L, R, n⟩ := μ
  dsimp only at hn
  subst hn
  refine zC.of (by decide +kernel) (Nat.le_of_ble_eq_true rfl) rfl ?_
  refine nR.aload_n dX6_init_0 0 rfl ?_
  refine zR.objI dX6_init_1 (by decide) moX6_3 (by decide) (Nat.le_of_ble_eq_true rfl) ?_
  refine nR.aload_n dX6_init_4 0 rfl ?_
  refine zR.iconst (v := 0) dX6_init_5 (by decide) ?_
  refine zR.putI dX6_init_6 (Or.inl fpX6_9) zcf6 ⟨Nat.le_of_ble_eq_true rfl, Nat.le_of_ble_eq_true rfl, rfl⟩ rfl rfl (fun _ _ => rfl) ?_
  refine nR.aload_n dX6_init_9 0 rfl ?_
  refine zR.iconst (v := 0) dX6_init_10 (by decide) ?_
  refine zR.putI dX6_init_11 (Or.inl fpX6_15) zcf6 ⟨Nat.le_of_ble_eq_true rfl, Nat.le_of_ble_eq_true rfl, rfl⟩ rfl rfl (fun _ _ => rfl) ?_
  refine nR.aload_n dX6_init_14 0 rfl ?_
  refine zR.iconst (v := 0) dX6_init_15 (by decide) ?_
  refine zR.putI dX6_init_16 (Or.inl fpX6_18) zcf6 ⟨Nat.le_of_ble_eq_true rfl, Nat.le_of_ble_eq_true rfl, rfl⟩ rfl rfl (fun _ _ => rfl) ?_
  refine nR.aload_n dX6_init_19 0 rfl ?_
  refine zR.iconst (v := 0) dX6_init_20 (by decide) ?_
  refine zR.putI dX6_init_21 (Or.inl fpX6_21) zcf6 ⟨Nat.le_of_ble_eq_true rfl, Nat.le_of_ble_eq_true rfl, rfl⟩ rfl rfl (fun _ _ => rfl) ?_
  refine nR.aload_n dX6_init_24 0 rfl ?_
  refine zR.iconst (v := 0) dX6_init_25 (by decide) ?_
  refine zR.putI dX6_init_26 (Or.inl fpX6_24) zcf6 ⟨Nat.le_of_ble_eq_true rfl, Nat.le_of_ble_eq_true rfl, rfl⟩ rfl rfl (fun _ _ => rfl) ?_
  refine nR.aload_n dX6_init_29 0 rfl ?_
  refine zR.bipush (v := 6) dX6_init_30 (by decide) ?_
  refine nR.newI (N := 6) 39 (kc := 14) (ks := 1794) dX6_init_32 ar_int rfl rfl rfl (by decide) (by decide) (by decide) (by decide) rfl rfl ?_
  refine zR.putR dX6_init_34 (Or.inr ⟨ffX6_27, rfl⟩) zcf6 ⟨Nat.le_of_ble_eq_true rfl, Nat.le_of_ble_eq_true rfl, rfl⟩ (Or.inr ⟨_, rfl⟩) ?_
  refine nR.aload_n dX6_init_37 0 rfl ?_
  refine zR.bipush (v := 6) dX6_init_38 (by decide) ?_
  refine nR.newI (N := 6) 40 (kc := 13) (ks := 1788) dX6_init_40 ar_int rfl rfl rfl (by decide) (by decide) (by decide) (by decide) rfl rfl ?_
  refine zR.putR dX6_init_42 (Or.inr ⟨ffX6_31, rfl⟩) zcf6 ⟨Nat.le_of_ble_eq_true rfl, Nat.le_of_ble_eq_true rfl, rfl⟩ (Or.inr ⟨_, rfl⟩) ?_
  refine nR.aload_n dX6_init_45 0 rfl ?_
  refine zR.bipush (v := 6) dX6_init_46 (by decide) ?_
  refine nR.newI (N := 6) 41 (kc := 12) (ks := 1782) dX6_init_48 ar_int rfl rfl rfl (by decide) (by decide) (by decide) (by decide) rfl rfl ?_
  refine zR.putR dX6_init_50 (Or.inr ⟨ffX6_34, rfl⟩) zcf6 ⟨Nat.le_of_ble_eq_true rfl, Nat.le_of_ble_eq_true rfl, rfl⟩ (Or.inr ⟨_, rfl⟩) ?_
  refine nR.aload_n dX6_init_53 0 rfl ?_
  refine zR.bipush (v := 24) dX6_init_54 (by decide) ?_
  refine nR.newI (N := 24) 42 (kc := 11) (ks := 1758) dX6_init_56 ar_int rfl rfl rfl (by decide) (by decide) (by decide) (by decide) rfl rfl ?_
  refine zR.putR dX6_init_58 (Or.inr ⟨ffX6_37, rfl⟩) zcf6 ⟨Nat.le_of_ble_eq_true rfl, Nat.le_of_ble_eq_true rfl, rfl⟩ (Or.inr ⟨_, rfl⟩) ?_
  refine nR.aload_n dX6_init_61 0 rfl ?_
  refine zR.bipush (v := 24) dX6_init_62 (by decide) ?_
  refine nR.newI (N := 24) 43 (kc := 10) (ks := 1734) dX6_init_64 ar_int rfl rfl rfl (by decide) (by decide) (by decide) (by decide) rfl rfl ?_
  refine zR.putR dX6_init_66 (Or.inr ⟨ffX6_40, rfl⟩) zcf6 ⟨Nat.le_of_ble_eq_true rfl, Nat.le_of_ble_eq_true rfl, rfl⟩ (Or.inr ⟨_, rfl⟩) ?_
  refine nR.aload_n dX6_init_69 0 rfl ?_
  refine zR.bipush (v := 6) dX6_init_70 (by decide) ?_
  refine nR.newI (N := 6) 44 (kc := 9) (ks := 1728) dX6_init_72 ar_int rfl rfl rfl (by decide) (by decide) (by decide) (by decide) rfl rfl ?_
  refine zR.putR dX6_init_74 (Or.inr ⟨ffX6_43, rfl⟩) zcf6 ⟨Nat.le_of_ble_eq_true rfl, Nat.le_of_ble_eq_true rfl, rfl⟩ (Or.inr ⟨_, rfl⟩) ?_
  refine nR.aload_n dX6_init_77 0 rfl ?_
  refine zR.bipush (v := 6) dX6_init_78 (by decide) ?_
  refine nR.newI (N := 6) 45 (kc := 8) (ks := 1722) dX6_init_80 ar_int rfl rfl rfl (by decide) (by decide) (by decide) (by decide) rfl rfl ?_
  refine zR.putR dX6_init_82 (Or.inr ⟨ffX6_46, rfl⟩) zcf6 ⟨Nat.le_of_ble_eq_true rfl, Nat.le_of_ble_eq_true rfl, rfl⟩ (Or.inr ⟨_, rfl⟩) ?_
  refine nR.aload_n dX6_init_85 0 rfl ?_
  refine zR.bipush (v := 6) dX6_init_86 (by decide) ?_
  refine nR.newI (N := 6) 46 (kc := 7) (ks := 1716) dX6_init_88 ar_int rfl rfl rfl (by decide) (by decide) (by decide) (by decide) rfl rfl ?_
  refine zR.putR dX6_init_90 (Or.inr ⟨ffX6_49, rfl⟩) zcf6 ⟨Nat.le_of_ble_eq_true rfl, Nat.le_of_ble_eq_true rfl, rfl⟩ (Or.inr ⟨_, rfl⟩) ?_
  refine nR.aload_n dX6_init_93 0 rfl ?_
  refine zR.bipush (v := 6) dX6_init_94 (by decide) ?_
  refine nR.newI (N := 6) 47 (kc := 6) (ks := 1710) dX6_init_96 ar_int rfl rfl rfl (by decide) (by decide) (by decide) (by decide) rfl rfl ?_
  refine zR.putR dX6_init_98 (Or.inr ⟨ffX6_52, rfl⟩) zcf6 ⟨Nat.le_of_ble_eq_true rfl, Nat.le_of_ble_eq_true rfl, rfl⟩ (Or.inr ⟨_, rfl⟩) ?_
  refine nR.aload_n dX6_init_101 0 rfl ?_
  refine zR.bipush (v := 36) dX6_init_102 (by decide) ?_
  refine nR.newI (N := 36) 48 (kc := 5) (ks := 1674) dX6_init_104 ar_int rfl rfl rfl (by decide) (by decide) (by decide) (by decide) rfl rfl ?_
  refine zR.putR dX6_init_106 (Or.inr ⟨ffX6_55, rfl⟩) zcf6 ⟨Nat.le_of_ble_eq_true rfl, Nat.le_of_ble_eq_true rfl, rfl⟩ (Or.inr ⟨_, rfl⟩) ?_
  refine nR.aload_n dX6_init_109 0 rfl ?_
  refine nR.new 49 (kc := 4) (ks := 1668) dX6_init_110 zcf8 nwX6_58 rfl rfl (by decide) rfl rfl ?_
  refine zR.dup dX6_init_113 rfl ?_
  refine nR.callI (kc := 0) (ks := 0) [] dX6_init_114 rfl (by decide) miX6_60 (by decide) rfl (Nat.le_of_ble_eq_true rfl) (lX8_init_49 _ rfl) rfl rfl ?_
  refine zR.putR dX6_init_117 (Or.inr ⟨ffX6_61, rfl⟩) zcf6 ⟨Nat.le_of_ble_eq_true rfl, Nat.le_of_ble_eq_true rfl, rfl⟩ (Or.inl ⟨_, rfl⟩) ?_
  exact zR.vret dX6_init_120
theorem dX5_init_0 : decode cX5_init 0 = .ok (.aload_n 0, 1) := by decide +kernel
theorem dX5_init_1 : decode cX5_init 1 = .ok (.invokespecial 3, 3) := by decide +kernel
theorem dX5_init_4 : decode cX5_init 4 = .ok (.aload_n 0, 1) := by decide +kernel
theorem dX5_init_5 : decode cX5_init 5 = .ok (.bipush 25, 2) := by decide +kernel
theorem dX5_init_7 : decode cX5_init 7 = .ok (.newarray .int, 2) := by decide +kernel
theorem dX5_init_9 : decode cX5_init 9 = .ok (.putfield 11, 3) := by decide +kernel
theorem dX5_init_12 : decode cX5_init 12 = .ok (.aload_n 0, 1) := by decide +kernel
theorem dX5_init_13 : decode cX5_init 13 = .ok (.iconst 0, 1) := by decide +kernel
theorem dX5_init_14 : decode cX5_init 14 = .ok (.putfield 15, 3) := by decide +kernel
theorem dX5_init_17 : decode cX5_init 17 = .ok (.aload_n 0, 1) := by decide +kernel
theorem dX5_init_18 : decode cX5_init 18 = .ok (.iconst 0, 1) := by decide +kernel
theorem dX5_init_19 : decode cX5_init 19 = .ok (.putfield 19, 3) := by decide +kernel
theorem dX5_init_22 : decode cX5_init 22 = .ok (.aload_n 0, 1) := by decide +kernel
theorem dX5_init_23 : decode cX5_init 23 = .ok (.iconst 0, 1) := by decide +kernel
theorem dX5_init_24 : decode cX5_init 24 = .ok (.putfield 22, 3) := by decide +kernel
theorem dX5_init_27 : decode cX5_init 27 = .ok (.aload_n 0, 1) := by decide +kernel
theorem dX5_init_28 : decode cX5_init 28 = .ok (.iconst (-1), 1) := by decide +kernel
theorem dX5_init_29 : decode cX5_init 29 = .ok (.putfield 25, 3) := by decide +kernel
theorem dX5_init_32 : decode cX5_init 32 = .ok (.aload_n 0, 1) := by decide +kernel
theorem dX5_init_33 : decode cX5_init 33 = .ok (.iconst 0, 1) := by decide +kernel
theorem dX5_init_34 : decode cX5_init 34 = .ok (.putfield 28, 3) := by decide +kernel
theorem dX5_init_37 : decode cX5_init 37 = .ok (.aload_n 0, 1) := by decide +kernel
theorem dX5_init_38 : decode cX5_init 38 = .ok (.iconst 0, 1) := by decide +kernel
theorem dX5_init_39 : decode cX5_init 39 = .ok (.putfield 31, 3) := by decide +kernel
theorem dX5_init_42 : decode cX5_init 42 = .ok (.aload_n 0, 1) := by decide +kernel
theorem dX5_init_43 : decode cX5_init 43 = .ok (.iconst 0, 1) := by decide +kernel
theorem dX5_init_44 : decode cX5_init 44 = .ok (.putfield 34, 3) := by decide +kernel
theorem dX5_init_47 : decode cX5_init 47 = .ok (.aload_n 0, 1) := by decide +kernel
theorem dX5_init_48 : decode cX5_init 48 = .ok (.iconst (-1), 1) := by decide +kernel
theorem dX5_init_49 : decode cX5_init 49 = .ok (.putfield 37, 3) := by decide +kernel
theorem dX5_init_52 : decode cX5_init 52 = .ok (.aload_n 0, 1) := by decide +kernel
theorem dX5_init_53 : decode cX5_init 53 = .ok (.aload_n 1, 1) := by decide +kernel
theorem dX5_init_54 : decode cX5_init 54 = .ok (.putfield 40, 3) := by decide +kernel
theorem dX5_init_57 : decode cX5_init 57 = .ok (.aload_n 0, 1) := by decide +kernel
theorem dX5_init_58 : decode cX5_init 58 = .ok (.aload_n 2, 1) := by decide +kernel
theorem dX5_init_59 : decode cX5_init 59 = .ok (.putfield 44, 3) := by decide +kernel
theorem dX5_init_62 : decode cX5_init 62 = .ok (.iconst 0, 1) := by decide +kernel
theorem dX5_init_63 : decode cX5_init 63 = .ok (.istore_n 3, 1) := by decide +kernel
theorem dX5_init_64 : decode cX5_init 64 = .ok (.iconst 0, 1) := by decide +kernel
theorem dX5_init_65 : decode cX5_init 65 = .ok (.istore 4, 2) := by decide +kernel
theorem dX5_init_67 : decode cX5_init 67 = .ok (.iconst 0, 1) := by decide +kernel
theorem dX5_init_68 : decode cX5_init 68 = .ok (.istore 5, 2) := by decide +kernel
theorem dX5_init_70 : decode cX5_init 70 = .ok (.iconst 0, 1) := by decide +kernel
theorem dX5_init_71 : decode cX5_init 71 = .ok (.istore 6, 2) := by decide +kernel
theorem dX5_init_73 : decode cX5_init 73 = .ok (.iload 6, 2) := by decide +kernel
theorem dX5_init_75 : decode cX5_init 75 = .ok (.ldc 48, 2) := by decide +kernel
theorem dX5_init_77 : decode cX5_init 77 = .ok (.invokevirtual 50, 3) := by decide +kernel
theorem dX5_init_80 : decode cX5_init 80 = .ok (.if_icmp .ge 65, 3) := by decide +kernel
theorem dX5_init_83 : decode cX5_init 83 = .ok (.ldc 48, 2) := by decide +kernel
theorem dX5_init_85 : decode cX5_init 85 = .ok (.iload 6, 2) := by decide +kernel
theorem dX5_init_87 : decode cX5_init 87 = .ok (.invokevirtual 56, 3) := by decide +kernel
theorem dX5_init_90 : decode cX5_init 90 = .ok (.istore 7, 2) := by decide +kernel
theorem dX5_init_92 : decode cX5_init 92 = .ok (.iload 7, 2) := by decide +kernel
theorem dX5_init_94 : decode cX5_init 94 = .ok (.bipush 32, 2) := by decide +kernel
theorem dX5_init_96 : decode cX5_init 96 = .ok (.if_icmp .eq 20, 3) := by decide +kernel
theorem dX5_init_99 : decode cX5_init 99 = .ok (.iload 5, 2) := by decide +kernel
theorem dX5_init_101 : decode cX5_init 101 = .ok (.iload 4, 2) := by decide +kernel
theorem dX5_init_103 : decode cX5_init 103 = .ok (.iload 7, 2) := by decide +kernel
theorem dX5_init_105 : decode cX5_init 105 = .ok (.invokestatic 60, 3) := by decide +kernel
theorem dX5_init_108 : decode cX5_init 108 = .ok (.istore 5, 2) := by decide +kernel
theorem dX5_init_110 : decode cX5_init 110 = .ok (.iinc 4 1, 3) := by decide +kernel
theorem dX5_init_113 : decode cX5_init 113 = .ok (.goto 26, 3) := by decide +kernel
theorem dX5_init_116 : decode cX5_init 116 = .ok (.iload_n 3, 1) := by decide +kernel
theorem dX5_init_117 : decode cX5_init 117 = .ok (.bipush 25, 2) := by decide +kernel
theorem dX5_init_119 : decode cX5_init 119 = .ok (.if_icmp .ge 20, 3) := by decide +kernel
theorem dX5_init_122 : decode cX5_init 122 = .ok (.aload_n 0, 1) := by decide +kernel
theorem dX5_init_123 : decode cX5_init 123 = .ok (.getfield 11, 3) := by decide +kernel
theorem dX5_init_126 : decode cX5_init 126 = .ok (.iload_n 3, 1) := by decide +kernel
theorem dX5_init_127 : decode cX5_init 127 = .ok (.iload 5, 2) := by decide +kernel
theorem dX5_init_129 : decode cX5_init 129 = .ok (.iastore, 1) := by decide +kernel
theorem dX5_init_130 : decode cX5_init 130 = .ok (.iinc 3 1, 3) := by decide +kernel
theorem dX5_init_133 : decode cX5_init 133 = .ok (.iconst 0, 1) := by decide +kernel
theorem dX5_init_134 : decode cX5_init 134 = .ok (.istore 5, 2) := by decide +kernel
theorem dX5_init_136 : decode cX5_init 136 = .ok (.iconst 0, 1) := by decide +kernel
theorem dX5_init_137 : decode cX5_init 137 = .ok (.istore 4, 2) := by decide +kernel
theorem dX5_init_139 : decode cX5_init 139 = .ok (.iinc 6 1, 3) := by decide +kernel
theorem dX5_init_142 : decode cX5_init 142 = .ok (.goto (-69), 3) := by decide +kernel
theorem dX5_init_145 : decode cX5_init 145 = .ok (.return_, 1) := by decide +kernel
/-- the char at i of the own words -/
def rdC (i : Nat) : Int32 := (zSb.getD 0 []).getD i 0
/-- Reader's loop over the own words: what it leaves in the row -/
def rdF : Nat → Nat → Int32 → Int32 → Int32 → (Nat → Int32) → (Nat → Int32)
  | 0, _, _, _, _, f => f
  | m + 1, i, cnt, ltr, pk, f => if rdC i = 32 then (if 25 ≤ cnt then rdF m (i + 1) cnt ltr pk f else rdF m (i + 1) (cnt + 1) 0 0 (upd f cnt.toNatClampNeg pk)) else rdF m (i + 1) cnt (ltr + 1) (fX5_withLetter pk ltr (rdC i)) f
def rdFin (μ : zM) : zM := (va_up μ.1 55 (rdF 130 0 0 0 0 (μ.1 55)), μ.2.1, μ.2.2.1, 55)
theorem rdc_all : ∀ i, i < 130 → fJ0_charAt_5068e 0 (nI i) = some (rdC i) := by decide +kernel
theorem rdLen : fJ0_length_8abf5 0 = nI 130 := by decide +kernel
set_option maxRecDepth 100000 in
theorem rdLoop {sc : Nat × (Nat → Int32)} : ∀ (m i : Nat) (cnt ltr pk : Int32) (I : Nat → Nat → Int32) (L : Nat → Nat → Int64) (R : Nat → Nat → Nat), R 54 0 = 55 → 0 ≤ cnt.toInt → i + m = 130 → zR (zY0 sc) 5 0 0 mX5_init 73 [(0, .ref 54), (3, .int cnt), (4, .int ltr), (5, .int pk), (6, .int (nI i))] [] (I, L, R, 55) (none, (va_up I 55 (rdF m i cnt ltr pk (I 55)), L, R, 55)) := by
  intro m
  induction m with
  | zero =>
    intro i cnt ltr pk I L R hR hc hi
    have hi : i = 130 := by omega
    subst hi
    refine kR.iload dX5_init_73 4 rfl ?_
    refine zR.ldcS 0 dX5_init_75 ⟨rfl, by decide⟩ ?_
    refine kR.cTi 0 [] dX5_init_77 rfl (by decide) mwX5_50 (by decide) rfl rfl (Nat.le_of_ble_eq_true rfl) (lJ0_length_8abf5 0 (by decide)) ?_
    refine zR.icmp_ge (tgt := 145) dX5_init_80 (by decide) (fun _ => ?_) (fun g => absurd (by rw [rdLen]; exact Int32.le_refl _) g)
    have e : va_up I 55 (I 55) = I := by
      funext a
      by_cases h : a = 55
      · subst h; exact va_up_self _ _ _
      · exact va_up_ne _ _ h
    show zR _ _ _ _ _ _ _ _ _ (none, (va_up I 55 (I 55), L, R, 55))
    rw [e]
    exact zR.vret dX5_init_145
  | succ m ih =>
    intro i cnt ltr pk I L R hR hc hi
    have hlt : i < 130 := by omega
    have hnx : nI i + 1 = nI (i + 1) := nI_1 i
    refine kR.iload dX5_init_73 4 rfl ?_
    refine zR.ldcS 0 dX5_init_75 ⟨rfl, by decide⟩ ?_
    refine kR.cTi 0 [] dX5_init_77 rfl (by decide) mwX5_50 (by decide) rfl rfl (Nat.le_of_ble_eq_true rfl) (lJ0_length_8abf5 0 (by decide)) ?_
    refine zR.icmp_ge (tgt := 145) dX5_init_80 (by decide) (fun g => absurd g (by rw [rdLen]; exact nI_ge hlt (by decide))) (fun _ => ?_)
    refine zR.ldcS 0 dX5_init_83 ⟨rfl, by decide⟩ ?_
    refine kR.iload dX5_init_85 4 rfl ?_
    refine kR.cTi 0 [.int (nI i)] dX5_init_87 rfl (by decide) mwX5_56 (by decide) rfl rfl (Nat.le_of_ble_eq_true rfl) (lJ0_charAt_5068e 0 (by decide) (nI i) _ (rdc_all i hlt)) ?_
    refine zR.istore (i := 7) (ls' := [(7, .int (rdC i)), (0, .ref 54), (3, .int cnt), (4, .int ltr), (5, .int pk), (6, .int (nI i))]) dX5_init_90 (by decide) rfl ?_
    refine kR.iload dX5_init_92 0 rfl ?_
    refine zR.bipush (v := 32) dX5_init_94 (by decide) ?_
    refine zR.icmp_eq (tgt := 116) dX5_init_96 (by decide) (fun g => ?_) (fun g => ?_)
    · refine kR.iload_n dX5_init_116 2 rfl ?_
      refine zR.bipush (v := 25) dX5_init_117 (by decide) ?_
      refine zR.icmp_ge (tgt := 139) dX5_init_119 (by decide) (fun g2 => ?_) (fun g2 => ?_)
      · refine zR.iinc 5 (v := nI i + 1) (ls' := [(6, .int (nI i + 1)), (7, .int (rdC i)), (0, .ref 54), (3, .int cnt), (4, .int ltr), (5, .int pk)]) dX5_init_139 rfl rfl (by decide) rfl ?_
        refine zR.goto (tgt := 73) dX5_init_142 (by decide) ?_
        refine zR.sub [2, 3, 4, 5, 0] rfl ?_
        rw [hnx]
        have k := ih (i + 1) cnt ltr pk I L R hR hc (by omega)
        rw [rdF, if_pos g, if_pos g2]
        exact k
      · refine kR.aload_n dX5_init_122 1 rfl ?_
        refine zR.getf (v := .ref 55) dX5_init_123 flX5_11 zcf5 ⟨by decide, by show 54 ≤ 55; decide, rfl⟩ (fun b => by show zt b (.ref (R 54 0)) = _; rw [hR]) ?_
        refine kR.iload_n dX5_init_126 2 rfl ?_
        refine kR.iload dX5_init_127 4 rfl ?_
        have g3 : cnt.toInt < 25 := by
          have z := Int32.not_le.mp g2
          have z2 := Int32.lt_iff_toInt_lt.mp z
          simpa using z2
        refine zR.iast dX5_init_129 ⟨by decide, by show 55 ≤ 55; decide, rfl⟩ (show vp_in cnt 25 from vp_in_iff.mpr ⟨hc, by exact_mod_cast g3⟩) ?_
        refine zR.iinc 2 (v := cnt + 1) (ls' := [(3, .int (cnt + 1)), (7, .int (rdC i)), (0, .ref 54), (4, .int ltr), (5, .int pk), (6, .int (nI i))]) dX5_init_130 rfl rfl (by decide) rfl ?_
        refine zR.iconst (v := 0) dX5_init_133 (by decide) ?_
        refine zR.istore (i := 5) (ls' := [(5, .int 0), (3, .int (cnt + 1)), (7, .int (rdC i)), (0, .ref 54), (4, .int ltr), (6, .int (nI i))]) dX5_init_134 (by decide) rfl ?_
        refine zR.iconst (v := 0) dX5_init_136 (by decide) ?_
        refine zR.istore (i := 4) (ls' := [(4, .int 0), (5, .int 0), (3, .int (cnt + 1)), (7, .int (rdC i)), (0, .ref 54), (6, .int (nI i))]) dX5_init_137 (by decide) rfl ?_
        refine zR.iinc 5 (v := nI i + 1) (ls' := [(6, .int (nI i + 1)), (4, .int 0), (5, .int 0), (3, .int (cnt + 1)), (7, .int (rdC i)), (0, .ref 54)]) dX5_init_139 rfl rfl (by decide) rfl ?_
        refine zR.goto (tgt := 73) dX5_init_142 (by decide) ?_
        refine zR.sub [5, 3, 1, 2, 0] rfl ?_
        rw [hnx]
        have hc1 : 0 ≤ (cnt + 1).toInt := by
          rw [Int32.toInt_add]
          rw [Int.bmod_eq_of_le] <;> simp <;> omega
        have k := ih (i + 1) (cnt + 1) 0 0 (va_up I 55 (upd (I 55) cnt.toNatClampNeg pk)) L R hR hc1 (by omega)
        rw [va_up_self, bx_uu] at k
        rw [rdF, if_pos g, if_neg g2]
        exact k
    · refine kR.iload dX5_init_99 4 rfl ?_
      refine kR.iload dX5_init_101 3 rfl ?_
      refine kR.iload dX5_init_103 0 rfl ?_
      refine kR.cSi [.int pk, .int ltr, .int (rdC i)] dX5_init_105 rfl (by decide) (Or.inl mwX5_60) rfl (Nat.le_of_ble_eq_true rfl) (lX5_withLetter pk ltr (rdC i)) ?_
      refine zR.istore (i := 5) (ls' := [(5, .int (fX5_withLetter pk ltr (rdC i))), (7, .int (rdC i)), (0, .ref 54), (3, .int cnt), (4, .int ltr), (6, .int (nI i))]) dX5_init_108 (by decide) rfl ?_
      refine zR.iinc 4 (v := ltr + 1) (ls' := [(4, .int (ltr + 1)), (5, .int (fX5_withLetter pk ltr (rdC i))), (7, .int (rdC i)), (0, .ref 54), (3, .int cnt), (6, .int (nI i))]) dX5_init_110 rfl rfl (by decide) rfl ?_
      refine zR.goto (tgt := 139) dX5_init_113 (by decide) ?_
      refine zR.iinc 5 (v := nI i + 1) (ls' := [(6, .int (nI i + 1)), (4, .int (ltr + 1)), (5, .int (fX5_withLetter pk ltr (rdC i))), (7, .int (rdC i)), (0, .ref 54), (3, .int cnt)]) dX5_init_139 rfl rfl (by decide) rfl ?_
      refine zR.goto (tgt := 73) dX5_init_142 (by decide) ?_
      refine zR.sub [4, 5, 1, 2, 0] rfl ?_
      rw [hnx]
      have k := ih (i + 1) cnt (ltr + 1) (fX5_withLetter pk ltr (rdC i)) I L R hR hc (by omega)
      rw [rdF, if_neg g]
      exact k

def cX5_init_54 (μ : zM) : zM := (rdFin (sR (sR (sI (sI (sI (sI (sI (sI (sI (sI (sR (zNw μ) 54 0 55) 54 3 0) 54 4 0) 54 5 0) 54 6 (-1)) 54 7 0) 54 8 0) 54 9 0) 54 10 (-1)) 54 1 2) 54 2 38))
set_option maxRecDepth 100000 in
theorem lX5_init_54 {sc : Nat × (Nat → Int32)} (μ : zM) (hn : μ.2.2.2 = 54) : zC (zY0 sc) 5 1 25 mX5_init [.ref 54, .ref 2, .ref 38] μ (none, cX5_init_54 μ) := by
  obtain ⟨I, L, R, n⟩ := μ
  dsimp only at hn
  subst hn
  refine zC.of (by decide +kernel) (Nat.le_of_ble_eq_true rfl) rfl ?_
  refine nR.aload_n dX5_init_0 0 rfl ?_
  refine zR.objI dX5_init_1 (by decide) moX5_3 (by decide) (Nat.le_of_ble_eq_true rfl) ?_
  refine nR.aload_n dX5_init_4 0 rfl ?_
  refine zR.bipush (v := 25) dX5_init_5 (by decide) ?_
  refine nR.newI (N := 25) 55 (kc := 0) (ks := 0) dX5_init_7 ar_int rfl rfl rfl (by decide) (by decide) (by decide) (by decide) rfl rfl ?_
  refine zR.putR dX5_init_9 (Or.inr ⟨ffX5_11, rfl⟩) zcf5 ⟨Nat.le_of_ble_eq_true rfl, Nat.le_of_ble_eq_true rfl, rfl⟩ (Or.inr ⟨_, rfl⟩) ?_
  refine nR.aload_n dX5_init_12 0 rfl ?_
  refine zR.iconst (v := 0) dX5_init_13 (by decide) ?_
  refine zR.putI dX5_init_14 (Or.inl fpX5_15) zcf5 ⟨Nat.le_of_ble_eq_true rfl, Nat.le_of_ble_eq_true rfl, rfl⟩ rfl rfl (fun _ _ => rfl) ?_
  refine nR.aload_n dX5_init_17 0 rfl ?_
  refine zR.iconst (v := 0) dX5_init_18 (by decide) ?_
  refine zR.putI dX5_init_19 (Or.inl fpX5_19) zcf5 ⟨Nat.le_of_ble_eq_true rfl, Nat.le_of_ble_eq_true rfl, rfl⟩ rfl rfl (fun _ _ => rfl) ?_
  refine nR.aload_n dX5_init_22 0 rfl ?_
  refine zR.iconst (v := 0) dX5_init_23 (by decide) ?_
  refine zR.putI dX5_init_24 (Or.inl fpX5_22) zcf5 ⟨Nat.le_of_ble_eq_true rfl, Nat.le_of_ble_eq_true rfl, rfl⟩ rfl rfl (fun _ _ => rfl) ?_
  refine nR.aload_n dX5_init_27 0 rfl ?_
  refine zR.iconst (v := (-1)) dX5_init_28 (by decide) ?_
  refine zR.putI dX5_init_29 (Or.inl fpX5_25) zcf5 ⟨Nat.le_of_ble_eq_true rfl, Nat.le_of_ble_eq_true rfl, rfl⟩ rfl rfl (fun _ _ => rfl) ?_
  refine nR.aload_n dX5_init_32 0 rfl ?_
  refine zR.iconst (v := 0) dX5_init_33 (by decide) ?_
  refine zR.putI dX5_init_34 (Or.inl fpX5_28) zcf5 ⟨Nat.le_of_ble_eq_true rfl, Nat.le_of_ble_eq_true rfl, rfl⟩ rfl rfl (fun _ _ => rfl) ?_
  refine nR.aload_n dX5_init_37 0 rfl ?_
  refine zR.iconst (v := 0) dX5_init_38 (by decide) ?_
  refine zR.putI dX5_init_39 (Or.inl fpX5_31) zcf5 ⟨Nat.le_of_ble_eq_true rfl, Nat.le_of_ble_eq_true rfl, rfl⟩ rfl rfl (fun _ _ => rfl) ?_
  refine nR.aload_n dX5_init_42 0 rfl ?_
  refine zR.iconst (v := 0) dX5_init_43 (by decide) ?_
  refine zR.putI dX5_init_44 (Or.inl fpX5_34) zcf5 ⟨Nat.le_of_ble_eq_true rfl, Nat.le_of_ble_eq_true rfl, rfl⟩ rfl rfl (fun _ _ => rfl) ?_
  refine nR.aload_n dX5_init_47 0 rfl ?_
  refine zR.iconst (v := (-1)) dX5_init_48 (by decide) ?_
  refine zR.putI dX5_init_49 (Or.inl fpX5_37) zcf5 ⟨Nat.le_of_ble_eq_true rfl, Nat.le_of_ble_eq_true rfl, rfl⟩ rfl rfl (fun _ _ => rfl) ?_
  refine nR.aload_n dX5_init_52 0 rfl ?_
  refine nR.aload_n dX5_init_53 1 rfl ?_
  refine zR.putR dX5_init_54 (Or.inr ⟨ffX5_40, rfl⟩) zcf5 ⟨Nat.le_of_ble_eq_true rfl, Nat.le_of_ble_eq_true rfl, rfl⟩ (Or.inl ⟨_, rfl⟩) ?_
  refine nR.aload_n dX5_init_57 0 rfl ?_
  refine nR.aload_n dX5_init_58 2 rfl ?_
  refine zR.putR dX5_init_59 (Or.inl fpX5_44) zcf5 ⟨Nat.le_of_ble_eq_true rfl, Nat.le_of_ble_eq_true rfl, rfl⟩ (Or.inl ⟨_, rfl⟩) ?_
  refine zR.iconst (v := 0) dX5_init_62 (by decide) ?_
  refine zR.istore_n (i := 3) (ls' := [(3, .int 0), (0, .ref 54), (1, .ref 2), (2, .ref 38)]) dX5_init_63 rfl (by decide) rfl ?_
  refine zR.iconst (v := 0) dX5_init_64 (by decide) ?_
  refine zR.istore (i := 4) (ls' := [(4, .int 0), (3, .int 0), (0, .ref 54), (1, .ref 2), (2, .ref 38)]) dX5_init_65 (by decide) rfl ?_
  refine zR.iconst (v := 0) dX5_init_67 (by decide) ?_
  refine zR.istore (i := 5) (ls' := [(5, .int 0), (4, .int 0), (3, .int 0), (0, .ref 54), (1, .ref 2), (2, .ref 38)]) dX5_init_68 (by decide) rfl ?_
  refine zR.iconst (v := 0) dX5_init_70 (by decide) ?_
  refine zR.istore (i := 6) (ls' := [(6, .int 0), (5, .int 0), (4, .int 0), (3, .int 0), (0, .ref 54), (1, .ref 2), (2, .ref 38)]) dX5_init_71 (by decide) rfl ?_
  refine zR.sub [4, 3, 2, 1, 0] rfl ?_
  exact rdLoop 130 0 0 0 0 _ _ _ rfl (by decide) rfl
def cX10_init_1 (μ : zM) : zM := (sI (sR (cX5_init_54 (zNw (sR (cX6_init_38 (zNw (sR (zNw (sR (cX3_init_35 (zNw (sR (cX1_init_32 (zNw (sR (cX0_init_27 (zNw (sR (cX4_init_8 (cX6_init_9 (zNw (zNw (sR (cX2_init_6 (zNw (sR (cX7_init_4 (zNw (sR (cX9_init_2 (zNw μ)) 1 0 2))) 1 1 4))) 1 2 6))))) 1 3 8))) 1 4 27))) 1 5 32))) 1 6 35)) 1 7 37))) 1 8 38))) 1 9 54) 1 10 1)
set_option maxRecDepth 100000 in
theorem lX10_init_1 {sc : Nat × (Nat → Int32)} (μ : zM) (hn : μ.2.2.2 = 1) : zC (zY0 sc) 6 54 8090 mX10_init [.ref 1] μ (none, cX10_init_1 μ) := by
  obtain ⟨I, L, R, n⟩ := μ
  dsimp only at hn
  subst hn
  refine zC.of (by decide +kernel) (Nat.le_of_ble_eq_true rfl) rfl ?_
  refine nR.aload_n dX10_init_0 0 rfl ?_
  refine zR.objI dX10_init_1 (by decide) moX10_3 (by decide) (Nat.le_of_ble_eq_true rfl) ?_
  refine nR.aload_n dX10_init_4 0 rfl ?_
  refine nR.new 2 (kc := 53) (ks := 8088) dX10_init_5 zcf9 nwX10_9 rfl rfl (by decide) rfl rfl ?_
  refine zR.dup dX10_init_8 rfl ?_
  refine nR.callI (kc := 52) (ks := 6488) [] dX10_init_9 rfl (by decide) miX10_11 (by decide) rfl (Nat.le_of_ble_eq_true rfl) (lX9_init_2 _ rfl) rfl rfl ?_
  refine zR.putR dX10_init_12 (Or.inr ⟨ffX10_12, rfl⟩) zcf10 ⟨Nat.le_of_ble_eq_true rfl, Nat.le_of_ble_eq_true rfl, rfl⟩ (Or.inl ⟨_, rfl⟩) ?_
  refine nR.aload_n dX10_init_15 0 rfl ?_
  refine nR.new 4 (kc := 51) (ks := 6487) dX10_init_16 zcf7 nwX10_16 rfl rfl (by decide) rfl rfl ?_
  refine zR.dup dX10_init_19 rfl ?_
  refine nR.callI (kc := 50) (ks := 6383) [] dX10_init_20 rfl (by decide) miX10_18 (by decide) rfl (Nat.le_of_ble_eq_true rfl) (lX7_init_4 _ rfl) rfl rfl ?_
  refine zR.putR dX10_init_23 (Or.inr ⟨ffX10_19, rfl⟩) zcf10 ⟨Nat.le_of_ble_eq_true rfl, Nat.le_of_ble_eq_true rfl, rfl⟩ (Or.inl ⟨_, rfl⟩) ?_
  refine nR.aload_n dX10_init_26 0 rfl ?_
  refine nR.new 6 (kc := 49) (ks := 6380) dX10_init_27 zcf2 nwX10_23 rfl rfl (by decide) rfl rfl ?_
  refine zR.dup dX10_init_30 rfl ?_
  refine nR.callI (kc := 48) (ks := 4300) [] dX10_init_31 rfl (by decide) miX10_25 (by decide) rfl (Nat.le_of_ble_eq_true rfl) (lX2_init_6 _ rfl) rfl rfl ?_
  refine zR.putR dX10_init_34 (Or.inr ⟨ffX10_26, rfl⟩) zcf10 ⟨Nat.le_of_ble_eq_true rfl, Nat.le_of_ble_eq_true rfl, rfl⟩ (Or.inl ⟨_, rfl⟩) ?_
  refine nR.aload_n dX10_init_37 0 rfl ?_
  refine nR.new 8 (kc := 47) (ks := 4296) dX10_init_38 zcf4 nwX10_30 rfl rfl (by decide) rfl rfl ?_
  refine zR.dup dX10_init_41 rfl ?_
  refine nR.aload_n dX10_init_42 0 rfl ?_
  refine zR.getf (v := .ref 4) dX10_init_43 flX10_19 zcf10 ⟨Nat.le_of_ble_eq_true rfl, Nat.le_of_ble_eq_true rfl, rfl⟩ (fun _ => rfl) ?_
  refine nR.new 9 (kc := 46) (ks := 4280) dX10_init_46 zcf6 nwX10_32 rfl rfl (by decide) rfl rfl ?_
  refine zR.dup dX10_init_49 rfl ?_
  refine nR.callI (kc := 31) (ks := 2480) [] dX10_init_50 rfl (by decide) miX10_34 (by decide) rfl (Nat.le_of_ble_eq_true rfl) (lX6_init_9 _ rfl) rfl rfl ?_
  refine nR.callI (kc := 29) (ks := 2467) [.ref 4, .ref 9] dX10_init_53 rfl (by decide) miX10_35 (by decide) rfl (Nat.le_of_ble_eq_true rfl) (lX4_init_8 _ rfl) rfl rfl ?_
  refine zR.putR dX10_init_56 (Or.inr ⟨ffX10_38, rfl⟩) zcf10 ⟨Nat.le_of_ble_eq_true rfl, Nat.le_of_ble_eq_true rfl, rfl⟩ (Or.inl ⟨_, rfl⟩) ?_
  refine nR.aload_n dX10_init_59 0 rfl ?_
  refine nR.new 27 (kc := 28) (ks := 2454) dX10_init_60 zcf0 nwX10_42 rfl rfl (by decide) rfl rfl ?_
  refine zR.dup dX10_init_63 rfl ?_
  refine nR.aload_n dX10_init_64 0 rfl ?_
  refine zR.getf (v := .ref 8) dX10_init_65 flX10_38 zcf10 ⟨Nat.le_of_ble_eq_true rfl, Nat.le_of_ble_eq_true rfl, rfl⟩ (fun _ => rfl) ?_
  refine nR.callI (kc := 24) (ks := 1955) [.ref 8] dX10_init_68 rfl (by decide) miX10_44 (by decide) rfl (Nat.le_of_ble_eq_true rfl) (lX0_init_27 _ rfl) rfl rfl ?_
  refine zR.putR dX10_init_71 (Or.inr ⟨ffX10_47, rfl⟩) zcf10 ⟨Nat.le_of_ble_eq_true rfl, Nat.le_of_ble_eq_true rfl, rfl⟩ (Or.inl ⟨_, rfl⟩) ?_
  refine nR.aload_n dX10_init_74 0 rfl ?_
  refine nR.new 32 (kc := 23) (ks := 1951) dX10_init_75 zcf1 nwX10_51 rfl rfl (by decide) rfl rfl ?_
  refine zR.dup dX10_init_78 rfl ?_
  refine nR.callI (kc := 21) (ks := 1927) [] dX10_init_79 rfl (by decide) miX10_53 (by decide) rfl (Nat.le_of_ble_eq_true rfl) (lX1_init_32 _ rfl) rfl rfl ?_
  refine zR.putR dX10_init_82 (Or.inr ⟨ffX10_54, rfl⟩) zcf10 ⟨Nat.le_of_ble_eq_true rfl, Nat.le_of_ble_eq_true rfl, rfl⟩ (Or.inl ⟨_, rfl⟩) ?_
  refine nR.aload_n dX10_init_85 0 rfl ?_
  refine nR.new 35 (kc := 20) (ks := 1925) dX10_init_86 zcf3 nwX10_58 rfl rfl (by decide) rfl rfl ?_
  refine zR.dup dX10_init_89 rfl ?_
  refine nR.callI (kc := 19) (ks := 1857) [] dX10_init_90 rfl (by decide) miX10_60 (by decide) rfl (Nat.le_of_ble_eq_true rfl) (lX3_init_35 _ rfl) rfl rfl ?_
  refine zR.putR dX10_init_93 (Or.inr ⟨ffX10_61, rfl⟩) zcf10 ⟨Nat.le_of_ble_eq_true rfl, Nat.le_of_ble_eq_true rfl, rfl⟩ (Or.inl ⟨_, rfl⟩) ?_
  refine nR.aload_n dX10_init_96 0 rfl ?_
  refine zR.iconst (v := 5) dX10_init_97 (by decide) ?_
  refine nR.newI (N := 5) 37 (kc := 18) (ks := 1852) dX10_init_98 ar_int rfl rfl rfl (by decide) (by decide) (by decide) (by decide) rfl rfl ?_
  refine zR.putR dX10_init_100 (Or.inr ⟨ffX10_65, rfl⟩) zcf10 ⟨Nat.le_of_ble_eq_true rfl, Nat.le_of_ble_eq_true rfl, rfl⟩ (Or.inr ⟨_, rfl⟩) ?_
  refine nR.aload_n dX10_init_103 0 rfl ?_
  refine nR.new 38 (kc := 17) (ks := 1836) dX10_init_104 zcf6 nwX10_32 rfl rfl (by decide) rfl rfl ?_
  refine zR.dup dX10_init_107 rfl ?_
  refine nR.callI (kc := 2) (ks := 36) [] dX10_init_108 rfl (by decide) miX10_34 (by decide) rfl (Nat.le_of_ble_eq_true rfl) (lX6_init_38 _ rfl) rfl rfl ?_
  refine zR.putR dX10_init_111 (Or.inl fpX10_69) zcf10 ⟨Nat.le_of_ble_eq_true rfl, Nat.le_of_ble_eq_true rfl, rfl⟩ (Or.inl ⟨_, rfl⟩) ?_
  refine nR.aload_n dX10_init_114 0 rfl ?_
  refine nR.new 54 (kc := 1) (ks := 25) dX10_init_115 zcf5 nwX10_73 rfl rfl (by decide) rfl rfl ?_
  refine zR.dup dX10_init_118 rfl ?_
  refine nR.aload_n dX10_init_119 0 rfl ?_
  refine zR.getf (v := .ref 2) dX10_init_120 flX10_12 zcf10 ⟨Nat.le_of_ble_eq_true rfl, Nat.le_of_ble_eq_true rfl, rfl⟩ (fun _ => rfl) ?_
  refine nR.aload_n dX10_init_123 0 rfl ?_
  refine zR.getf (v := .ref 38) dX10_init_124 flX10_69 zcf10 ⟨Nat.le_of_ble_eq_true rfl, Nat.le_of_ble_eq_true rfl, rfl⟩ (fun _ => rfl) ?_
  refine nR.callI (kc := 0) (ks := 0) [.ref 2, .ref 38] dX10_init_127 rfl (by decide) miX10_75 (by decide) rfl (Nat.le_of_ble_eq_true rfl) (lX5_init_54 _ rfl) rfl rfl ?_
  refine zR.putR dX10_init_130 (Or.inr ⟨ffX10_78, rfl⟩) zcf10 ⟨Nat.le_of_ble_eq_true rfl, Nat.le_of_ble_eq_true rfl, rfl⟩ (Or.inl ⟨_, rfl⟩) ?_
  refine nR.aload_n dX10_init_133 0 rfl ?_
  refine zR.iconst (v := 1) dX10_init_134 (by decide) ?_
  refine zR.putI dX10_init_135 (Or.inl fpX10_82) zcf10 ⟨Nat.le_of_ble_eq_true rfl, Nat.le_of_ble_eq_true rfl, rfl⟩ rfl rfl (fun _ _ => rfl) ?_
  exact zR.vret dX10_init_138
theorem dX11_init_0 : decode cX11_init 0 = .ok (.aload_n 0, 1) := by decide +kernel
theorem dX11_init_1 : decode cX11_init 1 = .ok (.invokespecial 1, 3) := by decide +kernel
theorem dX11_init_4 : decode cX11_init 4 = .ok (.aload_n 0, 1) := by decide +kernel
theorem dX11_init_5 : decode cX11_init 5 = .ok (.sipush 1800, 3) := by decide +kernel
theorem dX11_init_8 : decode cX11_init 8 = .ok (.newarray .int, 2) := by decide +kernel
theorem dX11_init_10 : decode cX11_init 10 = .ok (.putfield 7, 3) := by decide +kernel
theorem dX11_init_13 : decode cX11_init 13 = .ok (.aload_n 0, 1) := by decide +kernel
theorem dX11_init_14 : decode cX11_init 14 = .ok (.iconst 0, 1) := by decide +kernel
theorem dX11_init_15 : decode cX11_init 15 = .ok (.putfield 13, 3) := by decide +kernel
theorem dX11_init_18 : decode cX11_init 18 = .ok (.aload_n 0, 1) := by decide +kernel
theorem dX11_init_19 : decode cX11_init 19 = .ok (.iconst 0, 1) := by decide +kernel
theorem dX11_init_20 : decode cX11_init 20 = .ok (.putfield 17, 3) := by decide +kernel
theorem dX11_init_23 : decode cX11_init 23 = .ok (.aload_n 0, 1) := by decide +kernel
theorem dX11_init_24 : decode cX11_init 24 = .ok (.iconst 0, 1) := by decide +kernel
theorem dX11_init_25 : decode cX11_init 25 = .ok (.putfield 20, 3) := by decide +kernel
theorem dX11_init_28 : decode cX11_init 28 = .ok (.aload_n 0, 1) := by decide +kernel
theorem dX11_init_29 : decode cX11_init 29 = .ok (.iconst 0, 1) := by decide +kernel
theorem dX11_init_30 : decode cX11_init 30 = .ok (.putfield 23, 3) := by decide +kernel
theorem dX11_init_33 : decode cX11_init 33 = .ok (.aload_n 0, 1) := by decide +kernel
theorem dX11_init_34 : decode cX11_init 34 = .ok (.iconst 0, 1) := by decide +kernel
theorem dX11_init_35 : decode cX11_init 35 = .ok (.putfield 26, 3) := by decide +kernel
theorem dX11_init_38 : decode cX11_init 38 = .ok (.aload_n 0, 1) := by decide +kernel
theorem dX11_init_39 : decode cX11_init 39 = .ok (.iconst 0, 1) := by decide +kernel
theorem dX11_init_40 : decode cX11_init 40 = .ok (.putfield 29, 3) := by decide +kernel
theorem dX11_init_43 : decode cX11_init 43 = .ok (.aload_n 0, 1) := by decide +kernel
theorem dX11_init_44 : decode cX11_init 44 = .ok (.lconst 0, 1) := by decide +kernel
theorem dX11_init_45 : decode cX11_init 45 = .ok (.putfield 32, 3) := by decide +kernel
theorem dX11_init_48 : decode cX11_init 48 = .ok (.aload_n 0, 1) := by decide +kernel
theorem dX11_init_49 : decode cX11_init 49 = .ok (.iconst 0, 1) := by decide +kernel
theorem dX11_init_50 : decode cX11_init 50 = .ok (.putfield 36, 3) := by decide +kernel
theorem dX11_init_53 : decode cX11_init 53 = .ok (.aload_n 0, 1) := by decide +kernel
theorem dX11_init_54 : decode cX11_init 54 = .ok (.iconst (-1), 1) := by decide +kernel
theorem dX11_init_55 : decode cX11_init 55 = .ok (.putfield 39, 3) := by decide +kernel
theorem dX11_init_58 : decode cX11_init 58 = .ok (.aload_n 0, 1) := by decide +kernel
theorem dX11_init_59 : decode cX11_init 59 = .ok (.iconst 0, 1) := by decide +kernel
theorem dX11_init_60 : decode cX11_init 60 = .ok (.putfield 42, 3) := by decide +kernel
theorem dX11_init_63 : decode cX11_init 63 = .ok (.aload_n 0, 1) := by decide +kernel
theorem dX11_init_64 : decode cX11_init 64 = .ok (.iconst (-1), 1) := by decide +kernel
theorem dX11_init_65 : decode cX11_init 65 = .ok (.putfield 45, 3) := by decide +kernel
theorem dX11_init_68 : decode cX11_init 68 = .ok (.aload_n 0, 1) := by decide +kernel
theorem dX11_init_69 : decode cX11_init 69 = .ok (.iconst (-1), 1) := by decide +kernel
theorem dX11_init_70 : decode cX11_init 70 = .ok (.putfield 48, 3) := by decide +kernel
theorem dX11_init_73 : decode cX11_init 73 = .ok (.aload_n 0, 1) := by decide +kernel
theorem dX11_init_74 : decode cX11_init 74 = .ok (.iconst 0, 1) := by decide +kernel
theorem dX11_init_75 : decode cX11_init 75 = .ok (.putfield 51, 3) := by decide +kernel
theorem dX11_init_78 : decode cX11_init 78 = .ok (.aload_n 0, 1) := by decide +kernel
theorem dX11_init_79 : decode cX11_init 79 = .ok (.iconst 2, 1) := by decide +kernel
theorem dX11_init_80 : decode cX11_init 80 = .ok (.newarray .int, 2) := by decide +kernel
theorem dX11_init_82 : decode cX11_init 82 = .ok (.putfield 54, 3) := by decide +kernel
theorem dX11_init_85 : decode cX11_init 85 = .ok (.aload_n 0, 1) := by decide +kernel
theorem dX11_init_86 : decode cX11_init 86 = .ok (.bipush 12, 2) := by decide +kernel
theorem dX11_init_88 : decode cX11_init 88 = .ok (.newarray .int, 2) := by decide +kernel
theorem dX11_init_90 : decode cX11_init 90 = .ok (.putfield 57, 3) := by decide +kernel
theorem dX11_init_93 : decode cX11_init 93 = .ok (.aload_n 0, 1) := by decide +kernel
theorem dX11_init_94 : decode cX11_init 94 = .ok (.bipush 12, 2) := by decide +kernel
theorem dX11_init_96 : decode cX11_init 96 = .ok (.newarray .int, 2) := by decide +kernel
theorem dX11_init_98 : decode cX11_init 98 = .ok (.putfield 60, 3) := by decide +kernel
theorem dX11_init_101 : decode cX11_init 101 = .ok (.aload_n 0, 1) := by decide +kernel
theorem dX11_init_102 : decode cX11_init 102 = .ok (.bipush 48, 2) := by decide +kernel
theorem dX11_init_104 : decode cX11_init 104 = .ok (.newarray .int, 2) := by decide +kernel
theorem dX11_init_106 : decode cX11_init 106 = .ok (.putfield 63, 3) := by decide +kernel
theorem dX11_init_109 : decode cX11_init 109 = .ok (.aload_n 0, 1) := by decide +kernel
theorem dX11_init_110 : decode cX11_init 110 = .ok (.bipush 48, 2) := by decide +kernel
theorem dX11_init_112 : decode cX11_init 112 = .ok (.newarray .int, 2) := by decide +kernel
theorem dX11_init_114 : decode cX11_init 114 = .ok (.putfield 66, 3) := by decide +kernel
theorem dX11_init_117 : decode cX11_init 117 = .ok (.aload_n 0, 1) := by decide +kernel
theorem dX11_init_118 : decode cX11_init 118 = .ok (.iconst 2, 1) := by decide +kernel
theorem dX11_init_119 : decode cX11_init 119 = .ok (.newarray .int, 2) := by decide +kernel
theorem dX11_init_121 : decode cX11_init 121 = .ok (.putfield 69, 3) := by decide +kernel
theorem dX11_init_124 : decode cX11_init 124 = .ok (.aload_n 0, 1) := by decide +kernel
theorem dX11_init_125 : decode cX11_init 125 = .ok (.bipush 12, 2) := by decide +kernel
theorem dX11_init_127 : decode cX11_init 127 = .ok (.newarray .int, 2) := by decide +kernel
theorem dX11_init_129 : decode cX11_init 129 = .ok (.putfield 72, 3) := by decide +kernel
theorem dX11_init_132 : decode cX11_init 132 = .ok (.aload_n 0, 1) := by decide +kernel
theorem dX11_init_133 : decode cX11_init 133 = .ok (.bipush 12, 2) := by decide +kernel
theorem dX11_init_135 : decode cX11_init 135 = .ok (.newarray .int, 2) := by decide +kernel
theorem dX11_init_137 : decode cX11_init 137 = .ok (.putfield 75, 3) := by decide +kernel
theorem dX11_init_140 : decode cX11_init 140 = .ok (.aload_n 0, 1) := by decide +kernel
theorem dX11_init_141 : decode cX11_init 141 = .ok (.bipush 12, 2) := by decide +kernel
theorem dX11_init_143 : decode cX11_init 143 = .ok (.newarray .int, 2) := by decide +kernel
theorem dX11_init_145 : decode cX11_init 145 = .ok (.putfield 78, 3) := by decide +kernel
theorem dX11_init_148 : decode cX11_init 148 = .ok (.aload_n 0, 1) := by decide +kernel
theorem dX11_init_149 : decode cX11_init 149 = .ok (.bipush 72, 2) := by decide +kernel
theorem dX11_init_151 : decode cX11_init 151 = .ok (.newarray .int, 2) := by decide +kernel
theorem dX11_init_153 : decode cX11_init 153 = .ok (.putfield 81, 3) := by decide +kernel
theorem dX11_init_156 : decode cX11_init 156 = .ok (.aload_n 0, 1) := by decide +kernel
theorem dX11_init_157 : decode cX11_init 157 = .ok (.iconst 2, 1) := by decide +kernel
theorem dX11_init_158 : decode cX11_init 158 = .ok (.newarray .int, 2) := by decide +kernel
theorem dX11_init_160 : decode cX11_init 160 = .ok (.putfield 84, 3) := by decide +kernel
theorem dX11_init_163 : decode cX11_init 163 = .ok (.aload_n 0, 1) := by decide +kernel
theorem dX11_init_164 : decode cX11_init 164 = .ok (.iconst 2, 1) := by decide +kernel
theorem dX11_init_165 : decode cX11_init 165 = .ok (.newarray .int, 2) := by decide +kernel
theorem dX11_init_167 : decode cX11_init 167 = .ok (.putfield 87, 3) := by decide +kernel
theorem dX11_init_170 : decode cX11_init 170 = .ok (.aload_n 0, 1) := by decide +kernel
theorem dX11_init_171 : decode cX11_init 171 = .ok (.iconst 2, 1) := by decide +kernel
theorem dX11_init_172 : decode cX11_init 172 = .ok (.newarray .int, 2) := by decide +kernel
theorem dX11_init_174 : decode cX11_init 174 = .ok (.putfield 90, 3) := by decide +kernel
theorem dX11_init_177 : decode cX11_init 177 = .ok (.aload_n 0, 1) := by decide +kernel
theorem dX11_init_178 : decode cX11_init 178 = .ok (.iconst 2, 1) := by decide +kernel
theorem dX11_init_179 : decode cX11_init 179 = .ok (.newarray .int, 2) := by decide +kernel
theorem dX11_init_181 : decode cX11_init 181 = .ok (.putfield 93, 3) := by decide +kernel
theorem dX11_init_184 : decode cX11_init 184 = .ok (.aload_n 0, 1) := by decide +kernel
theorem dX11_init_185 : decode cX11_init 185 = .ok (.iconst 2, 1) := by decide +kernel
theorem dX11_init_186 : decode cX11_init 186 = .ok (.newarray .int, 2) := by decide +kernel
theorem dX11_init_188 : decode cX11_init 188 = .ok (.putfield 96, 3) := by decide +kernel
theorem dX11_init_191 : decode cX11_init 191 = .ok (.aload_n 0, 1) := by decide +kernel
theorem dX11_init_192 : decode cX11_init 192 = .ok (.iconst 2, 1) := by decide +kernel
theorem dX11_init_193 : decode cX11_init 193 = .ok (.newarray .int, 2) := by decide +kernel
theorem dX11_init_195 : decode cX11_init 195 = .ok (.putfield 99, 3) := by decide +kernel
theorem dX11_init_198 : decode cX11_init 198 = .ok (.aload_n 0, 1) := by decide +kernel
theorem dX11_init_199 : decode cX11_init 199 = .ok (.sipush 3200, 3) := by decide +kernel
theorem dX11_init_202 : decode cX11_init 202 = .ok (.newarray .int, 2) := by decide +kernel
theorem dX11_init_204 : decode cX11_init 204 = .ok (.putfield 102, 3) := by decide +kernel
theorem dX11_init_207 : decode cX11_init 207 = .ok (.aload_n 0, 1) := by decide +kernel
theorem dX11_init_208 : decode cX11_init 208 = .ok (.sipush 3200, 3) := by decide +kernel
theorem dX11_init_211 : decode cX11_init 211 = .ok (.newarray .int, 2) := by decide +kernel
theorem dX11_init_213 : decode cX11_init 213 = .ok (.putfield 105, 3) := by decide +kernel
theorem dX11_init_216 : decode cX11_init 216 = .ok (.aload_n 0, 1) := by decide +kernel
theorem dX11_init_217 : decode cX11_init 217 = .ok (.bipush 12, 2) := by decide +kernel
theorem dX11_init_219 : decode cX11_init 219 = .ok (.newarray .long, 2) := by decide +kernel
theorem dX11_init_221 : decode cX11_init 221 = .ok (.putfield 108, 3) := by decide +kernel
theorem dX11_init_224 : decode cX11_init 224 = .ok (.aload_n 0, 1) := by decide +kernel
theorem dX11_init_225 : decode cX11_init 225 = .ok (.bipush 12, 2) := by decide +kernel
theorem dX11_init_227 : decode cX11_init 227 = .ok (.newarray .long, 2) := by decide +kernel
theorem dX11_init_229 : decode cX11_init 229 = .ok (.putfield 112, 3) := by decide +kernel
theorem dX11_init_232 : decode cX11_init 232 = .ok (.aload_n 0, 1) := by decide +kernel
theorem dX11_init_233 : decode cX11_init 233 = .ok (.iconst 0, 1) := by decide +kernel
theorem dX11_init_234 : decode cX11_init 234 = .ok (.putfield 115, 3) := by decide +kernel
theorem dX11_init_237 : decode cX11_init 237 = .ok (.aload_n 0, 1) := by decide +kernel
theorem dX11_init_238 : decode cX11_init 238 = .ok (.iconst 1, 1) := by decide +kernel
theorem dX11_init_239 : decode cX11_init 239 = .ok (.putfield 118, 3) := by decide +kernel
theorem dX11_init_242 : decode cX11_init 242 = .ok (.aload_n 0, 1) := by decide +kernel
theorem dX11_init_243 : decode cX11_init 243 = .ok (.bipush 20, 2) := by decide +kernel
theorem dX11_init_245 : decode cX11_init 245 = .ok (.newarray .int, 2) := by decide +kernel
theorem dX11_init_247 : decode cX11_init 247 = .ok (.putfield 121, 3) := by decide +kernel
theorem dX11_init_250 : decode cX11_init 250 = .ok (.aload_n 0, 1) := by decide +kernel
theorem dX11_init_251 : decode cX11_init 251 = .ok (.bipush 20, 2) := by decide +kernel
theorem dX11_init_253 : decode cX11_init 253 = .ok (.newarray .int, 2) := by decide +kernel
theorem dX11_init_255 : decode cX11_init 255 = .ok (.putfield 124, 3) := by decide +kernel
theorem dX11_init_258 : decode cX11_init 258 = .ok (.aload_n 0, 1) := by decide +kernel
theorem dX11_init_259 : decode cX11_init 259 = .ok (.bipush 20, 2) := by decide +kernel
theorem dX11_init_261 : decode cX11_init 261 = .ok (.newarray .boolean, 2) := by decide +kernel
theorem dX11_init_263 : decode cX11_init 263 = .ok (.putfield 127, 3) := by decide +kernel
theorem dX11_init_266 : decode cX11_init 266 = .ok (.aload_n 0, 1) := by decide +kernel
theorem dX11_init_267 : decode cX11_init 267 = .ok (.bipush 20, 2) := by decide +kernel
theorem dX11_init_269 : decode cX11_init 269 = .ok (.newarray .int, 2) := by decide +kernel
theorem dX11_init_271 : decode cX11_init 271 = .ok (.putfield 131, 3) := by decide +kernel
theorem dX11_init_274 : decode cX11_init 274 = .ok (.aload_n 0, 1) := by decide +kernel
theorem dX11_init_275 : decode cX11_init 275 = .ok (.bipush 20, 2) := by decide +kernel
theorem dX11_init_277 : decode cX11_init 277 = .ok (.newarray .int, 2) := by decide +kernel
theorem dX11_init_279 : decode cX11_init 279 = .ok (.putfield 134, 3) := by decide +kernel
theorem dX11_init_282 : decode cX11_init 282 = .ok (.aload_n 0, 1) := by decide +kernel
theorem dX11_init_283 : decode cX11_init 283 = .ok (.iconst 0, 1) := by decide +kernel
theorem dX11_init_284 : decode cX11_init 284 = .ok (.putfield 137, 3) := by decide +kernel
theorem dX11_init_287 : decode cX11_init 287 = .ok (.aload_n 0, 1) := by decide +kernel
theorem dX11_init_288 : decode cX11_init 288 = .ok (.iconst 0, 1) := by decide +kernel
theorem dX11_init_289 : decode cX11_init 289 = .ok (.putfield 140, 3) := by decide +kernel
theorem dX11_init_292 : decode cX11_init 292 = .ok (.aload_n 0, 1) := by decide +kernel
theorem dX11_init_293 : decode cX11_init 293 = .ok (.sipush 500, 3) := by decide +kernel
theorem dX11_init_296 : decode cX11_init 296 = .ok (.newarray .int, 2) := by decide +kernel
theorem dX11_init_298 : decode cX11_init 298 = .ok (.putfield 143, 3) := by decide +kernel
theorem dX11_init_301 : decode cX11_init 301 = .ok (.aload_n 0, 1) := by decide +kernel
theorem dX11_init_302 : decode cX11_init 302 = .ok (.iconst 0, 1) := by decide +kernel
theorem dX11_init_303 : decode cX11_init 303 = .ok (.putfield 146, 3) := by decide +kernel
theorem dX11_init_306 : decode cX11_init 306 = .ok (.aload_n 0, 1) := by decide +kernel
theorem dX11_init_307 : decode cX11_init 307 = .ok (.iconst 0, 1) := by decide +kernel
theorem dX11_init_308 : decode cX11_init 308 = .ok (.putfield 149, 3) := by decide +kernel
theorem dX11_init_311 : decode cX11_init 311 = .ok (.aload_n 0, 1) := by decide +kernel
theorem dX11_init_312 : decode cX11_init 312 = .ok (.iconst 5, 1) := by decide +kernel
theorem dX11_init_313 : decode cX11_init 313 = .ok (.newarray .int, 2) := by decide +kernel
theorem dX11_init_315 : decode cX11_init 315 = .ok (.putfield 153, 3) := by decide +kernel
theorem dX11_init_318 : decode cX11_init 318 = .ok (.aload_n 0, 1) := by decide +kernel
theorem dX11_init_319 : decode cX11_init 319 = .ok (.bipush 22, 2) := by decide +kernel
theorem dX11_init_321 : decode cX11_init 321 = .ok (.newarray .int, 2) := by decide +kernel
theorem dX11_init_323 : decode cX11_init 323 = .ok (.putfield 156, 3) := by decide +kernel
theorem dX11_init_326 : decode cX11_init 326 = .ok (.aload_n 0, 1) := by decide +kernel
theorem dX11_init_327 : decode cX11_init 327 = .ok (.sipush 132, 3) := by decide +kernel
theorem dX11_init_330 : decode cX11_init 330 = .ok (.newarray .int, 2) := by decide +kernel
theorem dX11_init_332 : decode cX11_init 332 = .ok (.putfield 159, 3) := by decide +kernel
theorem dX11_init_335 : decode cX11_init 335 = .ok (.aload_n 0, 1) := by decide +kernel
theorem dX11_init_336 : decode cX11_init 336 = .ok (.sipush 132, 3) := by decide +kernel
theorem dX11_init_339 : decode cX11_init 339 = .ok (.newarray .int, 2) := by decide +kernel
theorem dX11_init_341 : decode cX11_init 341 = .ok (.putfield 162, 3) := by decide +kernel
theorem dX11_init_344 : decode cX11_init 344 = .ok (.aload_n 0, 1) := by decide +kernel
theorem dX11_init_345 : decode cX11_init 345 = .ok (.sipush 132, 3) := by decide +kernel
theorem dX11_init_348 : decode cX11_init 348 = .ok (.newarray .int, 2) := by decide +kernel
theorem dX11_init_350 : decode cX11_init 350 = .ok (.putfield 165, 3) := by decide +kernel
theorem dX11_init_353 : decode cX11_init 353 = .ok (.aload_n 0, 1) := by decide +kernel
theorem dX11_init_354 : decode cX11_init 354 = .ok (.sipush 792, 3) := by decide +kernel
theorem dX11_init_357 : decode cX11_init 357 = .ok (.newarray .int, 2) := by decide +kernel
theorem dX11_init_359 : decode cX11_init 359 = .ok (.putfield 168, 3) := by decide +kernel
theorem dX11_init_362 : decode cX11_init 362 = .ok (.aload_n 0, 1) := by decide +kernel
theorem dX11_init_363 : decode cX11_init 363 = .ok (.bipush 22, 2) := by decide +kernel
theorem dX11_init_365 : decode cX11_init 365 = .ok (.newarray .int, 2) := by decide +kernel
theorem dX11_init_367 : decode cX11_init 367 = .ok (.putfield 171, 3) := by decide +kernel
theorem dX11_init_370 : decode cX11_init 370 = .ok (.aload_n 0, 1) := by decide +kernel
theorem dX11_init_371 : decode cX11_init 371 = .ok (.sipush 1056, 3) := by decide +kernel
theorem dX11_init_374 : decode cX11_init 374 = .ok (.newarray .int, 2) := by decide +kernel
theorem dX11_init_376 : decode cX11_init 376 = .ok (.putfield 174, 3) := by decide +kernel
theorem dX11_init_379 : decode cX11_init 379 = .ok (.aload_n 0, 1) := by decide +kernel
theorem dX11_init_380 : decode cX11_init 380 = .ok (.sipush 1056, 3) := by decide +kernel
theorem dX11_init_383 : decode cX11_init 383 = .ok (.newarray .int, 2) := by decide +kernel
theorem dX11_init_385 : decode cX11_init 385 = .ok (.putfield 177, 3) := by decide +kernel
theorem dX11_init_388 : decode cX11_init 388 = .ok (.aload_n 0, 1) := by decide +kernel
theorem dX11_init_389 : decode cX11_init 389 = .ok (.sipush 1056, 3) := by decide +kernel
theorem dX11_init_392 : decode cX11_init 392 = .ok (.newarray .int, 2) := by decide +kernel
theorem dX11_init_394 : decode cX11_init 394 = .ok (.putfield 180, 3) := by decide +kernel
theorem dX11_init_397 : decode cX11_init 397 = .ok (.aload_n 0, 1) := by decide +kernel
theorem dX11_init_398 : decode cX11_init 398 = .ok (.sipush 1056, 3) := by decide +kernel
theorem dX11_init_401 : decode cX11_init 401 = .ok (.newarray .int, 2) := by decide +kernel
theorem dX11_init_403 : decode cX11_init 403 = .ok (.putfield 183, 3) := by decide +kernel
theorem dX11_init_406 : decode cX11_init 406 = .ok (.aload_n 0, 1) := by decide +kernel
theorem dX11_init_407 : decode cX11_init 407 = .ok (.iconst 0, 1) := by decide +kernel
theorem dX11_init_408 : decode cX11_init 408 = .ok (.putfield 186, 3) := by decide +kernel
theorem dX11_init_411 : decode cX11_init 411 = .ok (.aload_n 0, 1) := by decide +kernel
theorem dX11_init_412 : decode cX11_init 412 = .ok (.iconst 0, 1) := by decide +kernel
theorem dX11_init_413 : decode cX11_init 413 = .ok (.putfield 189, 3) := by decide +kernel
theorem dX11_init_416 : decode cX11_init 416 = .ok (.aload_n 0, 1) := by decide +kernel
theorem dX11_init_417 : decode cX11_init 417 = .ok (.lconst 1, 1) := by decide +kernel
theorem dX11_init_418 : decode cX11_init 418 = .ok (.putfield 192, 3) := by decide +kernel
theorem dX11_init_421 : decode cX11_init 421 = .ok (.aload_n 0, 1) := by decide +kernel
theorem dX11_init_422 : decode cX11_init 422 = .ok (.sipush 500, 3) := by decide +kernel
theorem dX11_init_425 : decode cX11_init 425 = .ok (.newarray .long, 2) := by decide +kernel
theorem dX11_init_427 : decode cX11_init 427 = .ok (.putfield 195, 3) := by decide +kernel
theorem dX11_init_430 : decode cX11_init 430 = .ok (.aload_n 0, 1) := by decide +kernel
theorem dX11_init_431 : decode cX11_init 431 = .ok (.iconst 0, 1) := by decide +kernel
theorem dX11_init_432 : decode cX11_init 432 = .ok (.putfield 198, 3) := by decide +kernel
theorem dX11_init_435 : decode cX11_init 435 = .ok (.aload_n 0, 1) := by decide +kernel
theorem dX11_init_436 : decode cX11_init 436 = .ok (.iconst 0, 1) := by decide +kernel
theorem dX11_init_437 : decode cX11_init 437 = .ok (.putfield 201, 3) := by decide +kernel
theorem dX11_init_440 : decode cX11_init 440 = .ok (.aload_n 0, 1) := by decide +kernel
theorem dX11_init_441 : decode cX11_init 441 = .ok (.iconst 0, 1) := by decide +kernel
theorem dX11_init_442 : decode cX11_init 442 = .ok (.putfield 204, 3) := by decide +kernel
theorem dX11_init_445 : decode cX11_init 445 = .ok (.aload_n 0, 1) := by decide +kernel
theorem dX11_init_446 : decode cX11_init 446 = .ok (.iconst 0, 1) := by decide +kernel
theorem dX11_init_447 : decode cX11_init 447 = .ok (.putfield 207, 3) := by decide +kernel
theorem dX11_init_450 : decode cX11_init 450 = .ok (.aload_n 0, 1) := by decide +kernel
theorem dX11_init_451 : decode cX11_init 451 = .ok (.iconst 0, 1) := by decide +kernel
theorem dX11_init_452 : decode cX11_init 452 = .ok (.putfield 210, 3) := by decide +kernel
theorem dX11_init_455 : decode cX11_init 455 = .ok (.aload_n 0, 1) := by decide +kernel
theorem dX11_init_456 : decode cX11_init 456 = .ok (.iconst 0, 1) := by decide +kernel
theorem dX11_init_457 : decode cX11_init 457 = .ok (.putfield 213, 3) := by decide +kernel
theorem dX11_init_460 : decode cX11_init 460 = .ok (.aload_n 0, 1) := by decide +kernel
theorem dX11_init_461 : decode cX11_init 461 = .ok (.bipush 6, 2) := by decide +kernel
theorem dX11_init_463 : decode cX11_init 463 = .ok (.newarray .int, 2) := by decide +kernel
theorem dX11_init_465 : decode cX11_init 465 = .ok (.putfield 216, 3) := by decide +kernel
theorem dX11_init_468 : decode cX11_init 468 = .ok (.aload_n 0, 1) := by decide +kernel
theorem dX11_init_469 : decode cX11_init 469 = .ok (.iconst 0, 1) := by decide +kernel
theorem dX11_init_470 : decode cX11_init 470 = .ok (.putfield 219, 3) := by decide +kernel
theorem dX11_init_473 : decode cX11_init 473 = .ok (.aload_n 0, 1) := by decide +kernel
theorem dX11_init_474 : decode cX11_init 474 = .ok (.lconst 0, 1) := by decide +kernel
theorem dX11_init_475 : decode cX11_init 475 = .ok (.putfield 222, 3) := by decide +kernel
theorem dX11_init_478 : decode cX11_init 478 = .ok (.aload_n 0, 1) := by decide +kernel
theorem dX11_init_479 : decode cX11_init 479 = .ok (.sipush 305, 3) := by decide +kernel
theorem dX11_init_482 : decode cX11_init 482 = .ok (.newarray .long, 2) := by decide +kernel
theorem dX11_init_484 : decode cX11_init 484 = .ok (.putfield 225, 3) := by decide +kernel
theorem dX11_init_487 : decode cX11_init 487 = .ok (.aload_n 0, 1) := by decide +kernel
theorem dX11_init_488 : decode cX11_init 488 = .ok (.bipush 6, 2) := by decide +kernel
theorem dX11_init_490 : decode cX11_init 490 = .ok (.newarray .int, 2) := by decide +kernel
theorem dX11_init_492 : decode cX11_init 492 = .ok (.putfield 228, 3) := by decide +kernel
theorem dX11_init_495 : decode cX11_init 495 = .ok (.aload_n 0, 1) := by decide +kernel
theorem dX11_init_496 : decode cX11_init 496 = .ok (.iconst 0, 1) := by decide +kernel
theorem dX11_init_497 : decode cX11_init 497 = .ok (.putfield 231, 3) := by decide +kernel
theorem dX11_init_500 : decode cX11_init 500 = .ok (.aload_n 0, 1) := by decide +kernel
theorem dX11_init_501 : decode cX11_init 501 = .ok (.iconst 0, 1) := by decide +kernel
theorem dX11_init_502 : decode cX11_init 502 = .ok (.putfield 234, 3) := by decide +kernel
theorem dX11_init_505 : decode cX11_init 505 = .ok (.aload_n 0, 1) := by decide +kernel
theorem dX11_init_506 : decode cX11_init 506 = .ok (.bipush 12, 2) := by decide +kernel
theorem dX11_init_508 : decode cX11_init 508 = .ok (.newarray .int, 2) := by decide +kernel
theorem dX11_init_510 : decode cX11_init 510 = .ok (.putfield 237, 3) := by decide +kernel
theorem dX11_init_513 : decode cX11_init 513 = .ok (.aload_n 0, 1) := by decide +kernel
theorem dX11_init_514 : decode cX11_init 514 = .ok (.bipush 12, 2) := by decide +kernel
theorem dX11_init_516 : decode cX11_init 516 = .ok (.newarray .int, 2) := by decide +kernel
theorem dX11_init_518 : decode cX11_init 518 = .ok (.putfield 240, 3) := by decide +kernel
theorem dX11_init_521 : decode cX11_init 521 = .ok (.aload_n 0, 1) := by decide +kernel
theorem dX11_init_522 : decode cX11_init 522 = .ok (.bipush 6, 2) := by decide +kernel
theorem dX11_init_524 : decode cX11_init 524 = .ok (.newarray .int, 2) := by decide +kernel
theorem dX11_init_526 : decode cX11_init 526 = .ok (.putfield 243, 3) := by decide +kernel
theorem dX11_init_529 : decode cX11_init 529 = .ok (.aload_n 0, 1) := by decide +kernel
theorem dX11_init_530 : decode cX11_init 530 = .ok (.bipush 70, 2) := by decide +kernel
theorem dX11_init_532 : decode cX11_init 532 = .ok (.newarray .int, 2) := by decide +kernel
theorem dX11_init_534 : decode cX11_init 534 = .ok (.putfield 246, 3) := by decide +kernel
theorem dX11_init_537 : decode cX11_init 537 = .ok (.aload_n 0, 1) := by decide +kernel
theorem dX11_init_538 : decode cX11_init 538 = .ok (.iconst 0, 1) := by decide +kernel
theorem dX11_init_539 : decode cX11_init 539 = .ok (.putfield 249, 3) := by decide +kernel
theorem dX11_init_542 : decode cX11_init 542 = .ok (.aload_n 0, 1) := by decide +kernel
theorem dX11_init_543 : decode cX11_init 543 = .ok (.getfield 84, 3) := by decide +kernel
theorem dX11_init_546 : decode cX11_init 546 = .ok (.iconst 0, 1) := by decide +kernel
theorem dX11_init_547 : decode cX11_init 547 = .ok (.iconst (-1), 1) := by decide +kernel
theorem dX11_init_548 : decode cX11_init 548 = .ok (.iastore, 1) := by decide +kernel
theorem dX11_init_549 : decode cX11_init 549 = .ok (.aload_n 0, 1) := by decide +kernel
theorem dX11_init_550 : decode cX11_init 550 = .ok (.getfield 90, 3) := by decide +kernel
theorem dX11_init_553 : decode cX11_init 553 = .ok (.iconst 0, 1) := by decide +kernel
theorem dX11_init_554 : decode cX11_init 554 = .ok (.iconst (-1), 1) := by decide +kernel
theorem dX11_init_555 : decode cX11_init 555 = .ok (.iastore, 1) := by decide +kernel
theorem dX11_init_556 : decode cX11_init 556 = .ok (.return_, 1) := by decide +kernel
def cX11_init_56 (μ : zM) : zM := (sI (sI (sI (sR (zNw (sR (zNw (sR (zNw (sR (zNw (sI (sI (sR (zNw (sR (zNw (sL (sI (sR (zNw (sI (sI (sI (sI (sI (sI (sR (zNw (sL (sI (sI (sR (zNw (sR (zNw (sR (zNw (sR (zNw (sR (zNw (sR (zNw (sR (zNw (sR (zNw (sR (zNw (sR (zNw (sR (zNw (sI (sI (sR (zNw (sI (sI (sR (zNw (sR (zNw (sR (zNw (sR (zNw (sR (zNw (sI (sI (sR (zNw (sR (zNw (sR (zNw (sR (zNw (sR (zNw (sR (zNw (sR (zNw (sR (zNw (sR (zNw (sR (zNw (sR (zNw (sR (zNw (sR (zNw (sR (zNw (sR (zNw (sR (zNw (sR (zNw (sR (zNw (sR (zNw (sR (zNw (sI (sI (sI (sI (sI (sI (sL (sI (sI (sI (sI (sI (sI (sR (zNw μ) 56 0 57) 56 1 0) 56 2 0) 56 3 0) 56 4 0) 56 5 0) 56 6 0) 56 7 0) 56 8 0) 56 9 (-1)) 56 10 0) 56 11 (-1)) 56 12 (-1)) 56 13 0)) 56 14 58)) 56 15 59)) 56 16 60)) 56 17 61)) 56 18 62)) 56 19 63)) 56 20 64)) 56 21 65)) 56 22 66)) 56 23 67)) 56 24 68)) 56 25 69)) 56 26 70)) 56 27 71)) 56 28 72)) 56 29 73)) 56 30 74)) 56 31 75)) 56 32 76)) 56 33 77) 56 34 0) 56 35 1)) 56 36 78)) 56 37 79)) 56 38 80)) 56 39 81)) 56 40 82) 56 41 0) 56 42 0)) 56 43 83) 56 44 0) 56 45 0)) 56 46 84)) 56 47 85)) 56 48 86)) 56 49 87)) 56 50 88)) 56 51 89)) 56 52 90)) 56 53 91)) 56 54 92)) 56 55 93)) 56 56 94) 56 57 0) 56 58 0) 56 59 1)) 56 60 95) 56 61 0) 56 62 0) 56 63 0) 56 64 0) 56 65 0) 56 66 0)) 56 67 96) 56 68 0) 56 69 0)) 56 70 97)) 56 71 98) 56 72 0) 56 73 0)) 56 74 99)) 56 75 100)) 56 76 101)) 56 77 102) 56 78 0) 68 0 (-1)) 70 0 (-1))
set_option maxRecDepth 100000 in
theorem lX11_init_56 {sc : Nat × (Nat → Int32)} (μ : zM) (hn : μ.2.2.2 = 56) : zC (zY0 sc) 1 46 15446 mX11_init [.ref 56] μ (none, cX11_init_56 μ) := by
  obtain ⟨I, L, R, n⟩ := μ
  dsimp only at hn
  subst hn
  refine zC.of (by decide +kernel) (Nat.le_of_ble_eq_true rfl) rfl ?_
  refine nR.aload_n dX11_init_0 0 rfl ?_
  refine zR.objI dX11_init_1 (by decide) moX11_1 (by decide) (Nat.le_of_ble_eq_true rfl) ?_
  refine nR.aload_n dX11_init_4 0 rfl ?_
  refine zR.sipush (v := 1800) dX11_init_5 (by decide) ?_
  refine nR.newI (N := 1800) 57 (kc := 45) (ks := 13646) dX11_init_8 ar_int rfl rfl rfl (by decide) (by decide) (by decide) (by decide) rfl rfl ?_
  refine zR.putR dX11_init_10 (Or.inr ⟨ffX11_7, rfl⟩) zcf11 ⟨Nat.le_of_ble_eq_true rfl, Nat.le_of_ble_eq_true rfl, rfl⟩ (Or.inr ⟨_, rfl⟩) ?_
  refine nR.aload_n dX11_init_13 0 rfl ?_
  refine zR.iconst (v := 0) dX11_init_14 (by decide) ?_
  refine zR.putI dX11_init_15 (Or.inl fpX11_13) zcf11 ⟨Nat.le_of_ble_eq_true rfl, Nat.le_of_ble_eq_true rfl, rfl⟩ rfl rfl (fun _ _ => rfl) ?_
  refine nR.aload_n dX11_init_18 0 rfl ?_
  refine zR.iconst (v := 0) dX11_init_19 (by decide) ?_
  refine zR.putI dX11_init_20 (Or.inl fpX11_17) zcf11 ⟨Nat.le_of_ble_eq_true rfl, Nat.le_of_ble_eq_true rfl, rfl⟩ rfl rfl (fun _ _ => rfl) ?_
  refine nR.aload_n dX11_init_23 0 rfl ?_
  refine zR.iconst (v := 0) dX11_init_24 (by decide) ?_
  refine zR.putI dX11_init_25 (Or.inl fpX11_20) zcf11 ⟨Nat.le_of_ble_eq_true rfl, Nat.le_of_ble_eq_true rfl, rfl⟩ rfl rfl (fun _ _ => rfl) ?_
  refine nR.aload_n dX11_init_28 0 rfl ?_
  refine zR.iconst (v := 0) dX11_init_29 (by decide) ?_
  refine zR.putI dX11_init_30 (Or.inl fpX11_23) zcf11 ⟨Nat.le_of_ble_eq_true rfl, Nat.le_of_ble_eq_true rfl, rfl⟩ rfl rfl (fun _ _ => rfl) ?_
  refine nR.aload_n dX11_init_33 0 rfl ?_
  refine zR.iconst (v := 0) dX11_init_34 (by decide) ?_
  refine zR.putI dX11_init_35 (Or.inl fpX11_26) zcf11 ⟨Nat.le_of_ble_eq_true rfl, Nat.le_of_ble_eq_true rfl, rfl⟩ rfl rfl (fun _ _ => rfl) ?_
  refine nR.aload_n dX11_init_38 0 rfl ?_
  refine zR.iconst (v := 0) dX11_init_39 (by decide) ?_
  refine zR.putI dX11_init_40 (Or.inl fpX11_29) zcf11 ⟨Nat.le_of_ble_eq_true rfl, Nat.le_of_ble_eq_true rfl, rfl⟩ rfl rfl (fun _ _ => rfl) ?_
  refine nR.aload_n dX11_init_43 0 rfl ?_
  refine zR.lconst (v := 0) dX11_init_44 (by decide) ?_
  refine zR.putL dX11_init_45 (Or.inl fpX11_32) zcf11 ⟨Nat.le_of_ble_eq_true rfl, Nat.le_of_ble_eq_true rfl, rfl⟩ rfl ?_
  refine nR.aload_n dX11_init_48 0 rfl ?_
  refine zR.iconst (v := 0) dX11_init_49 (by decide) ?_
  refine zR.putI dX11_init_50 (Or.inl fpX11_36) zcf11 ⟨Nat.le_of_ble_eq_true rfl, Nat.le_of_ble_eq_true rfl, rfl⟩ rfl rfl (fun _ _ => rfl) ?_
  refine nR.aload_n dX11_init_53 0 rfl ?_
  refine zR.iconst (v := (-1)) dX11_init_54 (by decide) ?_
  refine zR.putI dX11_init_55 (Or.inl fpX11_39) zcf11 ⟨Nat.le_of_ble_eq_true rfl, Nat.le_of_ble_eq_true rfl, rfl⟩ rfl rfl (fun _ _ => rfl) ?_
  refine nR.aload_n dX11_init_58 0 rfl ?_
  refine zR.iconst (v := 0) dX11_init_59 (by decide) ?_
  refine zR.putI dX11_init_60 (Or.inl fpX11_42) zcf11 ⟨Nat.le_of_ble_eq_true rfl, Nat.le_of_ble_eq_true rfl, rfl⟩ rfl rfl (fun _ _ => rfl) ?_
  refine nR.aload_n dX11_init_63 0 rfl ?_
  refine zR.iconst (v := (-1)) dX11_init_64 (by decide) ?_
  refine zR.putI dX11_init_65 (Or.inl fpX11_45) zcf11 ⟨Nat.le_of_ble_eq_true rfl, Nat.le_of_ble_eq_true rfl, rfl⟩ rfl rfl (fun _ _ => rfl) ?_
  refine nR.aload_n dX11_init_68 0 rfl ?_
  refine zR.iconst (v := (-1)) dX11_init_69 (by decide) ?_
  refine zR.putI dX11_init_70 (Or.inl fpX11_48) zcf11 ⟨Nat.le_of_ble_eq_true rfl, Nat.le_of_ble_eq_true rfl, rfl⟩ rfl rfl (fun _ _ => rfl) ?_
  refine nR.aload_n dX11_init_73 0 rfl ?_
  refine zR.iconst (v := 0) dX11_init_74 (by decide) ?_
  refine zR.putI dX11_init_75 (Or.inl fpX11_51) zcf11 ⟨Nat.le_of_ble_eq_true rfl, Nat.le_of_ble_eq_true rfl, rfl⟩ rfl rfl (fun _ _ => rfl) ?_
  refine nR.aload_n dX11_init_78 0 rfl ?_
  refine zR.iconst (v := 2) dX11_init_79 (by decide) ?_
  refine nR.newI (N := 2) 58 (kc := 44) (ks := 13644) dX11_init_80 ar_int rfl rfl rfl (by decide) (by decide) (by decide) (by decide) rfl rfl ?_
  refine zR.putR dX11_init_82 (Or.inr ⟨ffX11_54, rfl⟩) zcf11 ⟨Nat.le_of_ble_eq_true rfl, Nat.le_of_ble_eq_true rfl, rfl⟩ (Or.inr ⟨_, rfl⟩) ?_
  refine nR.aload_n dX11_init_85 0 rfl ?_
  refine zR.bipush (v := 12) dX11_init_86 (by decide) ?_
  refine nR.newI (N := 12) 59 (kc := 43) (ks := 13632) dX11_init_88 ar_int rfl rfl rfl (by decide) (by decide) (by decide) (by decide) rfl rfl ?_
  refine zR.putR dX11_init_90 (Or.inr ⟨ffX11_57, rfl⟩) zcf11 ⟨Nat.le_of_ble_eq_true rfl, Nat.le_of_ble_eq_true rfl, rfl⟩ (Or.inr ⟨_, rfl⟩) ?_
  refine nR.aload_n dX11_init_93 0 rfl ?_
  refine zR.bipush (v := 12) dX11_init_94 (by decide) ?_
  refine nR.newI (N := 12) 60 (kc := 42) (ks := 13620) dX11_init_96 ar_int rfl rfl rfl (by decide) (by decide) (by decide) (by decide) rfl rfl ?_
  refine zR.putR dX11_init_98 (Or.inr ⟨ffX11_60, rfl⟩) zcf11 ⟨Nat.le_of_ble_eq_true rfl, Nat.le_of_ble_eq_true rfl, rfl⟩ (Or.inr ⟨_, rfl⟩) ?_
  refine nR.aload_n dX11_init_101 0 rfl ?_
  refine zR.bipush (v := 48) dX11_init_102 (by decide) ?_
  refine nR.newI (N := 48) 61 (kc := 41) (ks := 13572) dX11_init_104 ar_int rfl rfl rfl (by decide) (by decide) (by decide) (by decide) rfl rfl ?_
  refine zR.putR dX11_init_106 (Or.inr ⟨ffX11_63, rfl⟩) zcf11 ⟨Nat.le_of_ble_eq_true rfl, Nat.le_of_ble_eq_true rfl, rfl⟩ (Or.inr ⟨_, rfl⟩) ?_
  refine nR.aload_n dX11_init_109 0 rfl ?_
  refine zR.bipush (v := 48) dX11_init_110 (by decide) ?_
  refine nR.newI (N := 48) 62 (kc := 40) (ks := 13524) dX11_init_112 ar_int rfl rfl rfl (by decide) (by decide) (by decide) (by decide) rfl rfl ?_
  refine zR.putR dX11_init_114 (Or.inr ⟨ffX11_66, rfl⟩) zcf11 ⟨Nat.le_of_ble_eq_true rfl, Nat.le_of_ble_eq_true rfl, rfl⟩ (Or.inr ⟨_, rfl⟩) ?_
  refine nR.aload_n dX11_init_117 0 rfl ?_
  refine zR.iconst (v := 2) dX11_init_118 (by decide) ?_
  refine nR.newI (N := 2) 63 (kc := 39) (ks := 13522) dX11_init_119 ar_int rfl rfl rfl (by decide) (by decide) (by decide) (by decide) rfl rfl ?_
  refine zR.putR dX11_init_121 (Or.inr ⟨ffX11_69, rfl⟩) zcf11 ⟨Nat.le_of_ble_eq_true rfl, Nat.le_of_ble_eq_true rfl, rfl⟩ (Or.inr ⟨_, rfl⟩) ?_
  refine nR.aload_n dX11_init_124 0 rfl ?_
  refine zR.bipush (v := 12) dX11_init_125 (by decide) ?_
  refine nR.newI (N := 12) 64 (kc := 38) (ks := 13510) dX11_init_127 ar_int rfl rfl rfl (by decide) (by decide) (by decide) (by decide) rfl rfl ?_
  refine zR.putR dX11_init_129 (Or.inr ⟨ffX11_72, rfl⟩) zcf11 ⟨Nat.le_of_ble_eq_true rfl, Nat.le_of_ble_eq_true rfl, rfl⟩ (Or.inr ⟨_, rfl⟩) ?_
  refine nR.aload_n dX11_init_132 0 rfl ?_
  refine zR.bipush (v := 12) dX11_init_133 (by decide) ?_
  refine nR.newI (N := 12) 65 (kc := 37) (ks := 13498) dX11_init_135 ar_int rfl rfl rfl (by decide) (by decide) (by decide) (by decide) rfl rfl ?_
  refine zR.putR dX11_init_137 (Or.inr ⟨ffX11_75, rfl⟩) zcf11 ⟨Nat.le_of_ble_eq_true rfl, Nat.le_of_ble_eq_true rfl, rfl⟩ (Or.inr ⟨_, rfl⟩) ?_
  refine nR.aload_n dX11_init_140 0 rfl ?_
  refine zR.bipush (v := 12) dX11_init_141 (by decide) ?_
  refine nR.newI (N := 12) 66 (kc := 36) (ks := 13486) dX11_init_143 ar_int rfl rfl rfl (by decide) (by decide) (by decide) (by decide) rfl rfl ?_
  refine zR.putR dX11_init_145 (Or.inr ⟨ffX11_78, rfl⟩) zcf11 ⟨Nat.le_of_ble_eq_true rfl, Nat.le_of_ble_eq_true rfl, rfl⟩ (Or.inr ⟨_, rfl⟩) ?_
  refine nR.aload_n dX11_init_148 0 rfl ?_
  refine zR.bipush (v := 72) dX11_init_149 (by decide) ?_
  refine nR.newI (N := 72) 67 (kc := 35) (ks := 13414) dX11_init_151 ar_int rfl rfl rfl (by decide) (by decide) (by decide) (by decide) rfl rfl ?_
  refine zR.putR dX11_init_153 (Or.inr ⟨ffX11_81, rfl⟩) zcf11 ⟨Nat.le_of_ble_eq_true rfl, Nat.le_of_ble_eq_true rfl, rfl⟩ (Or.inr ⟨_, rfl⟩) ?_
  refine nR.aload_n dX11_init_156 0 rfl ?_
  refine zR.iconst (v := 2) dX11_init_157 (by decide) ?_
  refine nR.newI (N := 2) 68 (kc := 34) (ks := 13412) dX11_init_158 ar_int rfl rfl rfl (by decide) (by decide) (by decide) (by decide) rfl rfl ?_
  refine zR.putR dX11_init_160 (Or.inr ⟨ffX11_84, rfl⟩) zcf11 ⟨Nat.le_of_ble_eq_true rfl, Nat.le_of_ble_eq_true rfl, rfl⟩ (Or.inr ⟨_, rfl⟩) ?_
  refine nR.aload_n dX11_init_163 0 rfl ?_
  refine zR.iconst (v := 2) dX11_init_164 (by decide) ?_
  refine nR.newI (N := 2) 69 (kc := 33) (ks := 13410) dX11_init_165 ar_int rfl rfl rfl (by decide) (by decide) (by decide) (by decide) rfl rfl ?_
  refine zR.putR dX11_init_167 (Or.inr ⟨ffX11_87, rfl⟩) zcf11 ⟨Nat.le_of_ble_eq_true rfl, Nat.le_of_ble_eq_true rfl, rfl⟩ (Or.inr ⟨_, rfl⟩) ?_
  refine nR.aload_n dX11_init_170 0 rfl ?_
  refine zR.iconst (v := 2) dX11_init_171 (by decide) ?_
  refine nR.newI (N := 2) 70 (kc := 32) (ks := 13408) dX11_init_172 ar_int rfl rfl rfl (by decide) (by decide) (by decide) (by decide) rfl rfl ?_
  refine zR.putR dX11_init_174 (Or.inr ⟨ffX11_90, rfl⟩) zcf11 ⟨Nat.le_of_ble_eq_true rfl, Nat.le_of_ble_eq_true rfl, rfl⟩ (Or.inr ⟨_, rfl⟩) ?_
  refine nR.aload_n dX11_init_177 0 rfl ?_
  refine zR.iconst (v := 2) dX11_init_178 (by decide) ?_
  refine nR.newI (N := 2) 71 (kc := 31) (ks := 13406) dX11_init_179 ar_int rfl rfl rfl (by decide) (by decide) (by decide) (by decide) rfl rfl ?_
  refine zR.putR dX11_init_181 (Or.inr ⟨ffX11_93, rfl⟩) zcf11 ⟨Nat.le_of_ble_eq_true rfl, Nat.le_of_ble_eq_true rfl, rfl⟩ (Or.inr ⟨_, rfl⟩) ?_
  refine nR.aload_n dX11_init_184 0 rfl ?_
  refine zR.iconst (v := 2) dX11_init_185 (by decide) ?_
  refine nR.newI (N := 2) 72 (kc := 30) (ks := 13404) dX11_init_186 ar_int rfl rfl rfl (by decide) (by decide) (by decide) (by decide) rfl rfl ?_
  refine zR.putR dX11_init_188 (Or.inr ⟨ffX11_96, rfl⟩) zcf11 ⟨Nat.le_of_ble_eq_true rfl, Nat.le_of_ble_eq_true rfl, rfl⟩ (Or.inr ⟨_, rfl⟩) ?_
  refine nR.aload_n dX11_init_191 0 rfl ?_
  refine zR.iconst (v := 2) dX11_init_192 (by decide) ?_
  refine nR.newI (N := 2) 73 (kc := 29) (ks := 13402) dX11_init_193 ar_int rfl rfl rfl (by decide) (by decide) (by decide) (by decide) rfl rfl ?_
  refine zR.putR dX11_init_195 (Or.inr ⟨ffX11_99, rfl⟩) zcf11 ⟨Nat.le_of_ble_eq_true rfl, Nat.le_of_ble_eq_true rfl, rfl⟩ (Or.inr ⟨_, rfl⟩) ?_
  refine nR.aload_n dX11_init_198 0 rfl ?_
  refine zR.sipush (v := 3200) dX11_init_199 (by decide) ?_
  refine nR.newI (N := 3200) 74 (kc := 28) (ks := 10202) dX11_init_202 ar_int rfl rfl rfl (by decide) (by decide) (by decide) (by decide) rfl rfl ?_
  refine zR.putR dX11_init_204 (Or.inr ⟨ffX11_102, rfl⟩) zcf11 ⟨Nat.le_of_ble_eq_true rfl, Nat.le_of_ble_eq_true rfl, rfl⟩ (Or.inr ⟨_, rfl⟩) ?_
  refine nR.aload_n dX11_init_207 0 rfl ?_
  refine zR.sipush (v := 3200) dX11_init_208 (by decide) ?_
  refine nR.newI (N := 3200) 75 (kc := 27) (ks := 7002) dX11_init_211 ar_int rfl rfl rfl (by decide) (by decide) (by decide) (by decide) rfl rfl ?_
  refine zR.putR dX11_init_213 (Or.inr ⟨ffX11_105, rfl⟩) zcf11 ⟨Nat.le_of_ble_eq_true rfl, Nat.le_of_ble_eq_true rfl, rfl⟩ (Or.inr ⟨_, rfl⟩) ?_
  refine nR.aload_n dX11_init_216 0 rfl ?_
  refine zR.bipush (v := 12) dX11_init_217 (by decide) ?_
  refine nR.newL (N := 12) 76 (kc := 26) (ks := 6990) dX11_init_219 ar_long rfl rfl rfl (by decide) (by decide) (by decide) (by decide) rfl rfl ?_
  refine zR.putR dX11_init_221 (Or.inr ⟨ffX11_108, rfl⟩) zcf11 ⟨Nat.le_of_ble_eq_true rfl, Nat.le_of_ble_eq_true rfl, rfl⟩ (Or.inr ⟨_, rfl⟩) ?_
  refine nR.aload_n dX11_init_224 0 rfl ?_
  refine zR.bipush (v := 12) dX11_init_225 (by decide) ?_
  refine nR.newL (N := 12) 77 (kc := 25) (ks := 6978) dX11_init_227 ar_long rfl rfl rfl (by decide) (by decide) (by decide) (by decide) rfl rfl ?_
  refine zR.putR dX11_init_229 (Or.inr ⟨ffX11_112, rfl⟩) zcf11 ⟨Nat.le_of_ble_eq_true rfl, Nat.le_of_ble_eq_true rfl, rfl⟩ (Or.inr ⟨_, rfl⟩) ?_
  refine nR.aload_n dX11_init_232 0 rfl ?_
  refine zR.iconst (v := 0) dX11_init_233 (by decide) ?_
  refine zR.putI dX11_init_234 (Or.inl fpX11_115) zcf11 ⟨Nat.le_of_ble_eq_true rfl, Nat.le_of_ble_eq_true rfl, rfl⟩ rfl rfl (fun _ _ => rfl) ?_
  refine nR.aload_n dX11_init_237 0 rfl ?_
  refine zR.iconst (v := 1) dX11_init_238 (by decide) ?_
  refine zR.putI dX11_init_239 (Or.inl fpX11_118) zcf11 ⟨Nat.le_of_ble_eq_true rfl, Nat.le_of_ble_eq_true rfl, rfl⟩ rfl rfl (fun _ _ => rfl) ?_
  refine nR.aload_n dX11_init_242 0 rfl ?_
  refine zR.bipush (v := 20) dX11_init_243 (by decide) ?_
  refine nR.newI (N := 20) 78 (kc := 24) (ks := 6958) dX11_init_245 ar_int rfl rfl rfl (by decide) (by decide) (by decide) (by decide) rfl rfl ?_
  refine zR.putR dX11_init_247 (Or.inr ⟨ffX11_121, rfl⟩) zcf11 ⟨Nat.le_of_ble_eq_true rfl, Nat.le_of_ble_eq_true rfl, rfl⟩ (Or.inr ⟨_, rfl⟩) ?_
  refine nR.aload_n dX11_init_250 0 rfl ?_
  refine zR.bipush (v := 20) dX11_init_251 (by decide) ?_
  refine nR.newI (N := 20) 79 (kc := 23) (ks := 6938) dX11_init_253 ar_int rfl rfl rfl (by decide) (by decide) (by decide) (by decide) rfl rfl ?_
  refine zR.putR dX11_init_255 (Or.inr ⟨ffX11_124, rfl⟩) zcf11 ⟨Nat.le_of_ble_eq_true rfl, Nat.le_of_ble_eq_true rfl, rfl⟩ (Or.inr ⟨_, rfl⟩) ?_
  refine nR.aload_n dX11_init_258 0 rfl ?_
  refine zR.bipush (v := 20) dX11_init_259 (by decide) ?_
  refine nR.newZ (N := 20) 80 (kc := 22) (ks := 6918) dX11_init_261 ar_boolean rfl rfl rfl (by decide) (by decide) (by decide) (by decide) rfl rfl ?_
  refine zR.putR dX11_init_263 (Or.inr ⟨ffX11_127, rfl⟩) zcf11 ⟨Nat.le_of_ble_eq_true rfl, Nat.le_of_ble_eq_true rfl, rfl⟩ (Or.inr ⟨_, rfl⟩) ?_
  refine nR.aload_n dX11_init_266 0 rfl ?_
  refine zR.bipush (v := 20) dX11_init_267 (by decide) ?_
  refine nR.newI (N := 20) 81 (kc := 21) (ks := 6898) dX11_init_269 ar_int rfl rfl rfl (by decide) (by decide) (by decide) (by decide) rfl rfl ?_
  refine zR.putR dX11_init_271 (Or.inr ⟨ffX11_131, rfl⟩) zcf11 ⟨Nat.le_of_ble_eq_true rfl, Nat.le_of_ble_eq_true rfl, rfl⟩ (Or.inr ⟨_, rfl⟩) ?_
  refine nR.aload_n dX11_init_274 0 rfl ?_
  refine zR.bipush (v := 20) dX11_init_275 (by decide) ?_
  refine nR.newI (N := 20) 82 (kc := 20) (ks := 6878) dX11_init_277 ar_int rfl rfl rfl (by decide) (by decide) (by decide) (by decide) rfl rfl ?_
  refine zR.putR dX11_init_279 (Or.inr ⟨ffX11_134, rfl⟩) zcf11 ⟨Nat.le_of_ble_eq_true rfl, Nat.le_of_ble_eq_true rfl, rfl⟩ (Or.inr ⟨_, rfl⟩) ?_
  refine nR.aload_n dX11_init_282 0 rfl ?_
  refine zR.iconst (v := 0) dX11_init_283 (by decide) ?_
  refine zR.putI dX11_init_284 (Or.inl fpX11_137) zcf11 ⟨Nat.le_of_ble_eq_true rfl, Nat.le_of_ble_eq_true rfl, rfl⟩ rfl rfl (fun _ _ => rfl) ?_
  refine nR.aload_n dX11_init_287 0 rfl ?_
  refine zR.iconst (v := 0) dX11_init_288 (by decide) ?_
  refine zR.putI dX11_init_289 (Or.inl fpX11_140) zcf11 ⟨Nat.le_of_ble_eq_true rfl, Nat.le_of_ble_eq_true rfl, rfl⟩ rfl rfl (fun _ _ => rfl) ?_
  refine nR.aload_n dX11_init_292 0 rfl ?_
  refine zR.sipush (v := 500) dX11_init_293 (by decide) ?_
  refine nR.newI (N := 500) 83 (kc := 19) (ks := 6378) dX11_init_296 ar_int rfl rfl rfl (by decide) (by decide) (by decide) (by decide) rfl rfl ?_
  refine zR.putR dX11_init_298 (Or.inr ⟨ffX11_143, rfl⟩) zcf11 ⟨Nat.le_of_ble_eq_true rfl, Nat.le_of_ble_eq_true rfl, rfl⟩ (Or.inr ⟨_, rfl⟩) ?_
  refine nR.aload_n dX11_init_301 0 rfl ?_
  refine zR.iconst (v := 0) dX11_init_302 (by decide) ?_
  refine zR.putI dX11_init_303 (Or.inl fpX11_146) zcf11 ⟨Nat.le_of_ble_eq_true rfl, Nat.le_of_ble_eq_true rfl, rfl⟩ rfl rfl (fun _ _ => rfl) ?_
  refine nR.aload_n dX11_init_306 0 rfl ?_
  refine zR.iconst (v := 0) dX11_init_307 (by decide) ?_
  refine zR.putI dX11_init_308 (Or.inl fpX11_149) zcf11 ⟨Nat.le_of_ble_eq_true rfl, Nat.le_of_ble_eq_true rfl, rfl⟩ rfl rfl (fun _ _ => rfl) ?_
  refine nR.aload_n dX11_init_311 0 rfl ?_
  refine zR.iconst (v := 5) dX11_init_312 (by decide) ?_
  refine nR.newI (N := 5) 84 (kc := 18) (ks := 6373) dX11_init_313 ar_int rfl rfl rfl (by decide) (by decide) (by decide) (by decide) rfl rfl ?_
  refine zR.putR dX11_init_315 (Or.inr ⟨ffX11_153, rfl⟩) zcf11 ⟨Nat.le_of_ble_eq_true rfl, Nat.le_of_ble_eq_true rfl, rfl⟩ (Or.inr ⟨_, rfl⟩) ?_
  refine nR.aload_n dX11_init_318 0 rfl ?_
  refine zR.bipush (v := 22) dX11_init_319 (by decide) ?_
  refine nR.newI (N := 22) 85 (kc := 17) (ks := 6351) dX11_init_321 ar_int rfl rfl rfl (by decide) (by decide) (by decide) (by decide) rfl rfl ?_
  refine zR.putR dX11_init_323 (Or.inr ⟨ffX11_156, rfl⟩) zcf11 ⟨Nat.le_of_ble_eq_true rfl, Nat.le_of_ble_eq_true rfl, rfl⟩ (Or.inr ⟨_, rfl⟩) ?_
  refine nR.aload_n dX11_init_326 0 rfl ?_
  refine zR.sipush (v := 132) dX11_init_327 (by decide) ?_
  refine nR.newI (N := 132) 86 (kc := 16) (ks := 6219) dX11_init_330 ar_int rfl rfl rfl (by decide) (by decide) (by decide) (by decide) rfl rfl ?_
  refine zR.putR dX11_init_332 (Or.inr ⟨ffX11_159, rfl⟩) zcf11 ⟨Nat.le_of_ble_eq_true rfl, Nat.le_of_ble_eq_true rfl, rfl⟩ (Or.inr ⟨_, rfl⟩) ?_
  refine nR.aload_n dX11_init_335 0 rfl ?_
  refine zR.sipush (v := 132) dX11_init_336 (by decide) ?_
  refine nR.newI (N := 132) 87 (kc := 15) (ks := 6087) dX11_init_339 ar_int rfl rfl rfl (by decide) (by decide) (by decide) (by decide) rfl rfl ?_
  refine zR.putR dX11_init_341 (Or.inr ⟨ffX11_162, rfl⟩) zcf11 ⟨Nat.le_of_ble_eq_true rfl, Nat.le_of_ble_eq_true rfl, rfl⟩ (Or.inr ⟨_, rfl⟩) ?_
  refine nR.aload_n dX11_init_344 0 rfl ?_
  refine zR.sipush (v := 132) dX11_init_345 (by decide) ?_
  refine nR.newI (N := 132) 88 (kc := 14) (ks := 5955) dX11_init_348 ar_int rfl rfl rfl (by decide) (by decide) (by decide) (by decide) rfl rfl ?_
  refine zR.putR dX11_init_350 (Or.inr ⟨ffX11_165, rfl⟩) zcf11 ⟨Nat.le_of_ble_eq_true rfl, Nat.le_of_ble_eq_true rfl, rfl⟩ (Or.inr ⟨_, rfl⟩) ?_
  refine nR.aload_n dX11_init_353 0 rfl ?_
  refine zR.sipush (v := 792) dX11_init_354 (by decide) ?_
  refine nR.newI (N := 792) 89 (kc := 13) (ks := 5163) dX11_init_357 ar_int rfl rfl rfl (by decide) (by decide) (by decide) (by decide) rfl rfl ?_
  refine zR.putR dX11_init_359 (Or.inr ⟨ffX11_168, rfl⟩) zcf11 ⟨Nat.le_of_ble_eq_true rfl, Nat.le_of_ble_eq_true rfl, rfl⟩ (Or.inr ⟨_, rfl⟩) ?_
  refine nR.aload_n dX11_init_362 0 rfl ?_
  refine zR.bipush (v := 22) dX11_init_363 (by decide) ?_
  refine nR.newI (N := 22) 90 (kc := 12) (ks := 5141) dX11_init_365 ar_int rfl rfl rfl (by decide) (by decide) (by decide) (by decide) rfl rfl ?_
  refine zR.putR dX11_init_367 (Or.inr ⟨ffX11_171, rfl⟩) zcf11 ⟨Nat.le_of_ble_eq_true rfl, Nat.le_of_ble_eq_true rfl, rfl⟩ (Or.inr ⟨_, rfl⟩) ?_
  refine nR.aload_n dX11_init_370 0 rfl ?_
  refine zR.sipush (v := 1056) dX11_init_371 (by decide) ?_
  refine nR.newI (N := 1056) 91 (kc := 11) (ks := 4085) dX11_init_374 ar_int rfl rfl rfl (by decide) (by decide) (by decide) (by decide) rfl rfl ?_
  refine zR.putR dX11_init_376 (Or.inr ⟨ffX11_174, rfl⟩) zcf11 ⟨Nat.le_of_ble_eq_true rfl, Nat.le_of_ble_eq_true rfl, rfl⟩ (Or.inr ⟨_, rfl⟩) ?_
  refine nR.aload_n dX11_init_379 0 rfl ?_
  refine zR.sipush (v := 1056) dX11_init_380 (by decide) ?_
  refine nR.newI (N := 1056) 92 (kc := 10) (ks := 3029) dX11_init_383 ar_int rfl rfl rfl (by decide) (by decide) (by decide) (by decide) rfl rfl ?_
  refine zR.putR dX11_init_385 (Or.inr ⟨ffX11_177, rfl⟩) zcf11 ⟨Nat.le_of_ble_eq_true rfl, Nat.le_of_ble_eq_true rfl, rfl⟩ (Or.inr ⟨_, rfl⟩) ?_
  refine nR.aload_n dX11_init_388 0 rfl ?_
  refine zR.sipush (v := 1056) dX11_init_389 (by decide) ?_
  refine nR.newI (N := 1056) 93 (kc := 9) (ks := 1973) dX11_init_392 ar_int rfl rfl rfl (by decide) (by decide) (by decide) (by decide) rfl rfl ?_
  refine zR.putR dX11_init_394 (Or.inr ⟨ffX11_180, rfl⟩) zcf11 ⟨Nat.le_of_ble_eq_true rfl, Nat.le_of_ble_eq_true rfl, rfl⟩ (Or.inr ⟨_, rfl⟩) ?_
  refine nR.aload_n dX11_init_397 0 rfl ?_
  refine zR.sipush (v := 1056) dX11_init_398 (by decide) ?_
  refine nR.newI (N := 1056) 94 (kc := 8) (ks := 917) dX11_init_401 ar_int rfl rfl rfl (by decide) (by decide) (by decide) (by decide) rfl rfl ?_
  refine zR.putR dX11_init_403 (Or.inr ⟨ffX11_183, rfl⟩) zcf11 ⟨Nat.le_of_ble_eq_true rfl, Nat.le_of_ble_eq_true rfl, rfl⟩ (Or.inr ⟨_, rfl⟩) ?_
  refine nR.aload_n dX11_init_406 0 rfl ?_
  refine zR.iconst (v := 0) dX11_init_407 (by decide) ?_
  refine zR.putI dX11_init_408 (Or.inl fpX11_186) zcf11 ⟨Nat.le_of_ble_eq_true rfl, Nat.le_of_ble_eq_true rfl, rfl⟩ rfl rfl (fun _ _ => rfl) ?_
  refine nR.aload_n dX11_init_411 0 rfl ?_
  refine zR.iconst (v := 0) dX11_init_412 (by decide) ?_
  refine zR.putI dX11_init_413 (Or.inl fpX11_189) zcf11 ⟨Nat.le_of_ble_eq_true rfl, Nat.le_of_ble_eq_true rfl, rfl⟩ rfl rfl (fun _ _ => rfl) ?_
  refine nR.aload_n dX11_init_416 0 rfl ?_
  refine zR.lconst (v := 1) dX11_init_417 (by decide) ?_
  refine zR.putL dX11_init_418 (Or.inl fpX11_192) zcf11 ⟨Nat.le_of_ble_eq_true rfl, Nat.le_of_ble_eq_true rfl, rfl⟩ rfl ?_
  refine nR.aload_n dX11_init_421 0 rfl ?_
  refine zR.sipush (v := 500) dX11_init_422 (by decide) ?_
  refine nR.newL (N := 500) 95 (kc := 7) (ks := 417) dX11_init_425 ar_long rfl rfl rfl (by decide) (by decide) (by decide) (by decide) rfl rfl ?_
  refine zR.putR dX11_init_427 (Or.inr ⟨ffX11_195, rfl⟩) zcf11 ⟨Nat.le_of_ble_eq_true rfl, Nat.le_of_ble_eq_true rfl, rfl⟩ (Or.inr ⟨_, rfl⟩) ?_
  refine nR.aload_n dX11_init_430 0 rfl ?_
  refine zR.iconst (v := 0) dX11_init_431 (by decide) ?_
  refine zR.putI dX11_init_432 (Or.inl fpX11_198) zcf11 ⟨Nat.le_of_ble_eq_true rfl, Nat.le_of_ble_eq_true rfl, rfl⟩ rfl rfl (fun _ _ => rfl) ?_
  refine nR.aload_n dX11_init_435 0 rfl ?_
  refine zR.iconst (v := 0) dX11_init_436 (by decide) ?_
  refine zR.putI dX11_init_437 (Or.inl fpX11_201) zcf11 ⟨Nat.le_of_ble_eq_true rfl, Nat.le_of_ble_eq_true rfl, rfl⟩ rfl rfl (fun _ _ => rfl) ?_
  refine nR.aload_n dX11_init_440 0 rfl ?_
  refine zR.iconst (v := 0) dX11_init_441 (by decide) ?_
  refine zR.putI dX11_init_442 (Or.inl fpX11_204) zcf11 ⟨Nat.le_of_ble_eq_true rfl, Nat.le_of_ble_eq_true rfl, rfl⟩ rfl rfl (fun _ _ => rfl) ?_
  refine nR.aload_n dX11_init_445 0 rfl ?_
  refine zR.iconst (v := 0) dX11_init_446 (by decide) ?_
  refine zR.putI dX11_init_447 (Or.inl fpX11_207) zcf11 ⟨Nat.le_of_ble_eq_true rfl, Nat.le_of_ble_eq_true rfl, rfl⟩ rfl rfl (fun _ _ => rfl) ?_
  refine nR.aload_n dX11_init_450 0 rfl ?_
  refine zR.iconst (v := 0) dX11_init_451 (by decide) ?_
  refine zR.putI dX11_init_452 (Or.inl fpX11_210) zcf11 ⟨Nat.le_of_ble_eq_true rfl, Nat.le_of_ble_eq_true rfl, rfl⟩ rfl rfl (fun _ _ => rfl) ?_
  refine nR.aload_n dX11_init_455 0 rfl ?_
  refine zR.iconst (v := 0) dX11_init_456 (by decide) ?_
  refine zR.putI dX11_init_457 (Or.inl fpX11_213) zcf11 ⟨Nat.le_of_ble_eq_true rfl, Nat.le_of_ble_eq_true rfl, rfl⟩ rfl rfl (fun _ _ => rfl) ?_
  refine nR.aload_n dX11_init_460 0 rfl ?_
  refine zR.bipush (v := 6) dX11_init_461 (by decide) ?_
  refine nR.newI (N := 6) 96 (kc := 6) (ks := 411) dX11_init_463 ar_int rfl rfl rfl (by decide) (by decide) (by decide) (by decide) rfl rfl ?_
  refine zR.putR dX11_init_465 (Or.inr ⟨ffX11_216, rfl⟩) zcf11 ⟨Nat.le_of_ble_eq_true rfl, Nat.le_of_ble_eq_true rfl, rfl⟩ (Or.inr ⟨_, rfl⟩) ?_
  refine nR.aload_n dX11_init_468 0 rfl ?_
  refine zR.iconst (v := 0) dX11_init_469 (by decide) ?_
  refine zR.putI dX11_init_470 (Or.inl fpX11_219) zcf11 ⟨Nat.le_of_ble_eq_true rfl, Nat.le_of_ble_eq_true rfl, rfl⟩ rfl rfl (fun _ _ => rfl) ?_
  refine nR.aload_n dX11_init_473 0 rfl ?_
  refine zR.lconst (v := 0) dX11_init_474 (by decide) ?_
  refine zR.putL dX11_init_475 (Or.inl fpX11_222) zcf11 ⟨Nat.le_of_ble_eq_true rfl, Nat.le_of_ble_eq_true rfl, rfl⟩ rfl ?_
  refine nR.aload_n dX11_init_478 0 rfl ?_
  refine zR.sipush (v := 305) dX11_init_479 (by decide) ?_
  refine nR.newL (N := 305) 97 (kc := 5) (ks := 106) dX11_init_482 ar_long rfl rfl rfl (by decide) (by decide) (by decide) (by decide) rfl rfl ?_
  refine zR.putR dX11_init_484 (Or.inr ⟨ffX11_225, rfl⟩) zcf11 ⟨Nat.le_of_ble_eq_true rfl, Nat.le_of_ble_eq_true rfl, rfl⟩ (Or.inr ⟨_, rfl⟩) ?_
  refine nR.aload_n dX11_init_487 0 rfl ?_
  refine zR.bipush (v := 6) dX11_init_488 (by decide) ?_
  refine nR.newI (N := 6) 98 (kc := 4) (ks := 100) dX11_init_490 ar_int rfl rfl rfl (by decide) (by decide) (by decide) (by decide) rfl rfl ?_
  refine zR.putR dX11_init_492 (Or.inr ⟨ffX11_228, rfl⟩) zcf11 ⟨Nat.le_of_ble_eq_true rfl, Nat.le_of_ble_eq_true rfl, rfl⟩ (Or.inr ⟨_, rfl⟩) ?_
  refine nR.aload_n dX11_init_495 0 rfl ?_
  refine zR.iconst (v := 0) dX11_init_496 (by decide) ?_
  refine zR.putI dX11_init_497 (Or.inl fpX11_231) zcf11 ⟨Nat.le_of_ble_eq_true rfl, Nat.le_of_ble_eq_true rfl, rfl⟩ rfl rfl (fun _ _ => rfl) ?_
  refine nR.aload_n dX11_init_500 0 rfl ?_
  refine zR.iconst (v := 0) dX11_init_501 (by decide) ?_
  refine zR.putI dX11_init_502 (Or.inl fpX11_234) zcf11 ⟨Nat.le_of_ble_eq_true rfl, Nat.le_of_ble_eq_true rfl, rfl⟩ rfl rfl (fun _ _ => rfl) ?_
  refine nR.aload_n dX11_init_505 0 rfl ?_
  refine zR.bipush (v := 12) dX11_init_506 (by decide) ?_
  refine nR.newI (N := 12) 99 (kc := 3) (ks := 88) dX11_init_508 ar_int rfl rfl rfl (by decide) (by decide) (by decide) (by decide) rfl rfl ?_
  refine zR.putR dX11_init_510 (Or.inr ⟨ffX11_237, rfl⟩) zcf11 ⟨Nat.le_of_ble_eq_true rfl, Nat.le_of_ble_eq_true rfl, rfl⟩ (Or.inr ⟨_, rfl⟩) ?_
  refine nR.aload_n dX11_init_513 0 rfl ?_
  refine zR.bipush (v := 12) dX11_init_514 (by decide) ?_
  refine nR.newI (N := 12) 100 (kc := 2) (ks := 76) dX11_init_516 ar_int rfl rfl rfl (by decide) (by decide) (by decide) (by decide) rfl rfl ?_
  refine zR.putR dX11_init_518 (Or.inr ⟨ffX11_240, rfl⟩) zcf11 ⟨Nat.le_of_ble_eq_true rfl, Nat.le_of_ble_eq_true rfl, rfl⟩ (Or.inr ⟨_, rfl⟩) ?_
  refine nR.aload_n dX11_init_521 0 rfl ?_
  refine zR.bipush (v := 6) dX11_init_522 (by decide) ?_
  refine nR.newI (N := 6) 101 (kc := 1) (ks := 70) dX11_init_524 ar_int rfl rfl rfl (by decide) (by decide) (by decide) (by decide) rfl rfl ?_
  refine zR.putR dX11_init_526 (Or.inr ⟨ffX11_243, rfl⟩) zcf11 ⟨Nat.le_of_ble_eq_true rfl, Nat.le_of_ble_eq_true rfl, rfl⟩ (Or.inr ⟨_, rfl⟩) ?_
  refine nR.aload_n dX11_init_529 0 rfl ?_
  refine zR.bipush (v := 70) dX11_init_530 (by decide) ?_
  refine nR.newI (N := 70) 102 (kc := 0) (ks := 0) dX11_init_532 ar_int rfl rfl rfl (by decide) (by decide) (by decide) (by decide) rfl rfl ?_
  refine zR.putR dX11_init_534 (Or.inr ⟨ffX11_246, rfl⟩) zcf11 ⟨Nat.le_of_ble_eq_true rfl, Nat.le_of_ble_eq_true rfl, rfl⟩ (Or.inr ⟨_, rfl⟩) ?_
  refine nR.aload_n dX11_init_537 0 rfl ?_
  refine zR.iconst (v := 0) dX11_init_538 (by decide) ?_
  refine zR.putI dX11_init_539 (Or.inl fpX11_249) zcf11 ⟨Nat.le_of_ble_eq_true rfl, Nat.le_of_ble_eq_true rfl, rfl⟩ rfl rfl (fun _ _ => rfl) ?_
  refine nR.aload_n dX11_init_542 0 rfl ?_
  refine zR.getf (v := .ref 68) dX11_init_543 flX11_84 zcf11 ⟨Nat.le_of_ble_eq_true rfl, Nat.le_of_ble_eq_true rfl, rfl⟩ (fun _ => rfl) ?_
  refine zR.iconst (v := 0) dX11_init_546 (by decide) ?_
  refine zR.iconst (v := (-1)) dX11_init_547 (by decide) ?_
  refine zR.iast dX11_init_548 ⟨Nat.le_of_ble_eq_true rfl, Nat.le_of_ble_eq_true rfl, rfl⟩ (show vp_in 0 2 from ixb_in rfl) ?_
  refine nR.aload_n dX11_init_549 0 rfl ?_
  refine zR.getf (v := .ref 70) dX11_init_550 flX11_90 zcf11 ⟨Nat.le_of_ble_eq_true rfl, Nat.le_of_ble_eq_true rfl, rfl⟩ (fun _ => rfl) ?_
  refine zR.iconst (v := 0) dX11_init_553 (by decide) ?_
  refine zR.iconst (v := (-1)) dX11_init_554 (by decide) ?_
  refine zR.iast dX11_init_555 ⟨Nat.le_of_ble_eq_true rfl, Nat.le_of_ble_eq_true rfl, rfl⟩ (show vp_in 0 2 from ixb_in rfl) ?_
  exact zR.vret dX11_init_556

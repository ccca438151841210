/-! MY OWN: the law from its entry; the claim, out of what the functions say. -/
theorem dL_law_0 : decode cL_law 0 = .ok (.new 7, 3) := by decide +kernel
theorem dL_law_3 : decode cL_law 3 = .ok (.dup, 1) := by decide +kernel
theorem dL_law_4 : decode cL_law 4 = .ok (.invokespecial 9, 3) := by decide +kernel
theorem dL_law_7 : decode cL_law 7 = .ok (.astore_n 1, 1) := by decide +kernel
theorem dL_law_8 : decode cL_law 8 = .ok (.new 10, 3) := by decide +kernel
theorem dL_law_11 : decode cL_law 11 = .ok (.dup, 1) := by decide +kernel
theorem dL_law_12 : decode cL_law 12 = .ok (.invokespecial 12, 3) := by decide +kernel
theorem dL_law_15 : decode cL_law 15 = .ok (.astore_n 2, 1) := by decide +kernel
theorem dL_law_16 : decode cL_law 16 = .ok (.iconst 0, 1) := by decide +kernel
theorem dL_law_17 : decode cL_law 17 = .ok (.istore_n 3, 1) := by decide +kernel
theorem zW_congr {Y : zY} {G : zG} {b : zB} {μ μ' : zM} (hn : μ'.2.2.2 = μ.2.2.2) (h : ∀ p, 1 ≤ p → p ≤ μ.2.2.2 → zCell Y G b μ' p = zCell Y G b μ p) : zW Y G b μ' = zW Y G b μ := by
  unfold zW
  rw [hn]
  refine List.map_congr_left fun i hi => ?_
  have hi := List.mem_range.mp hi
  rw [h (i + 1) (by omega) (by omega)]
theorem zR.congr {Y : zY} {d kc ks : Nat} {q : zMI} {pc : Nat} {ls : List (Nat × Value)} {st : List Value} {μ μ' : zM} {o : Option Value × zM} (hn : μ'.2.2.2 = μ.2.2.2) (h : ∀ (G : zG) (b : zB) (p : Nat), 1 ≤ p → p ≤ μ.2.2.2 → zCell Y G b μ' p = zCell Y G b μ p) (k : zR Y d kc ks q pc ls st μ' o) : zR Y d kc ks q pc ls st μ o := by
  intro l p e s m args below meth c G A b mc ms Q En hA hK hQ H locs cells slots Ls hW hl h1 h2
  refine k l p e s m args below meth c G A b mc ms Q En hA hK hQ H locs cells slots Ls ?_ hl h1 h2
  unfold zWd at hW ⊢
  rw [zW_congr hn (h G b), hn]
  exact hW
/-- the memory that the constructors leave -/
def zFin : zM := cX11_init_56 (zNw (cX10_init_1 (zNw (fun _ _ => 0, fun _ _ => 0, fun _ _ => 0, 0))))
def σ0 : zS := (zFin.1, zFin.2.1, true, false, true)
set_option maxRecDepth 100000 in
theorem zFin_R : ∀ p, p < 103 → ∀ k, k < 80 → zR0 (true, false, true) p k = zFin.2.2.1 p k := by decide +kernel
theorem zFin_n : zFin.2.2.2 = 102 := by decide +kernel
theorem zNf_lt : ∀ c, c < 12 → zNf c < 80 := by decide
theorem zK_lt : ∀ p, p < 103 → 1 ≤ p → (zKl.getD p 99 < 12 ∨ zKl.getD p 99 = 20 ∨ zKl.getD p 99 = 21 ∨ zKl.getD p 99 = 22 ∨ zKl.getD p 99 = 23) := by decide +kernel
theorem zFin_cell (sc : Nat × (Nat → Int32)) (G : zG) (b : zB) (p : Nat) (h1 : 1 ≤ p) (h2 : p ≤ zFin.2.2.2) : zCell (zY0 sc) G b (zE σ0) p = zCell (zY0 sc) G b zFin p := by
  rw [zFin_n] at h2
  rcases zK_lt p (by omega) h1 with h | h | h | h | h
  · rw [zCell_obj (c := zKl.getD p 99) rfl h, zCell_obj (c := zKl.getD p 99) rfl h]
    have e : zFs b (zE σ0) p (zKl.getD p 99) = zFs b zFin p (zKl.getD p 99) := by
      unfold zFs
      refine List.map_congr_left fun k hk => ?_
      have hk := List.mem_range.mp hk
      exact zFv_of (μ := zFin) (μ' := zE σ0) rfl rfl (zFin_R p (by omega) k (Nat.lt_trans hk (zNf_lt _ h))) _
    rw [e]
  · rw [zCell_20 h, zCell_20 h]; rfl
  · rw [zCell_21 h, zCell_21 h]; rfl
  · rw [zCell_22 h, zCell_22 h]; rfl
  · rw [zCell_23 h, zCell_23 h]; rfl
set_option maxRecDepth 100000 in
theorem lawStart {sc : Nat × (Nat → Int32)} (w : Int32 × zS) (h : fL_law sc 0 σ0 = some w) : zR (zY0 sc) 2048 102 23626 mL_law 0 [(0, .ref 1100)] [] (fun _ _ => 0, fun _ _ => 0, fun _ _ => 0, 0) (some (.int w.1), zE w.2) := by
  refine nR.new 1 (kc := 101) (ks := 23615) dL_law_0 zcf10 nwL_7 rfl rfl (by decide) rfl rfl ?_
  refine zR.dup dL_law_3 rfl ?_
  refine nR.callI (kc := 47) (ks := 15525) [] dL_law_4 rfl (by decide) miL_9 (by decide) rfl (Nat.le_of_ble_eq_true rfl) (lX10_init_1 _ rfl) rfl rfl ?_
  refine zR.astore_n (i := 1) (ls' := [(1, .ref 1), (0, .ref 1100)]) dL_law_7 rfl (by decide) rfl ?_
  refine nR.new 56 (kc := 46) (ks := 15446) dL_law_8 zcf11 nwL_10 rfl rfl (by decide) rfl rfl ?_
  refine zR.dup dL_law_11 rfl ?_
  refine nR.callI (kc := 0) (ks := 0) [] dL_law_12 rfl (by decide) miL_12 (by decide) rfl (Nat.le_of_ble_eq_true rfl) (lX11_init_56 _ rfl) rfl rfl ?_
  refine zR.astore_n (i := 2) (ls' := [(2, .ref 56), (1, .ref 1), (0, .ref 1100)]) dL_law_15 rfl (by decide) rfl ?_
  refine zR.iconst (v := 0) dL_law_16 (by decide) ?_
  refine zR.istore_n (i := 3) (ls' := [(3, .int 0), (2, .ref 56), (1, .ref 1), (0, .ref 1100)]) dL_law_17 rfl (by decide) rfl ?_
  refine zR.sub [3, 2, 1, 0] rfl ?_
  refine zR.congr (μ := zFin) (μ' := zE σ0) zFin_n.symm (fun G b p h1 h2 => zFin_cell sc G b p h1 h2) ?_
  exact eL_law sc 0 σ0 w h
/-! the tables at the entry -/
abbrev zG0 : Jvm.Cond := Jvm.Cond.and given_1 narrow_1
def zTm (i : Nat) : Term := if i = 0 then .string "BreathRoad$Reader" 48 else .string "BreathRoad$Reader" 109
set_option maxRecDepth 100000 in
theorem zMem0 : ∀ i, i < 2 → (Cond.exactly (zTm i) "java/lang/String" ∈ flatC zG0 ∧ Cond.eq (.field (zTm i) "java/lang/String" "coder" "B") (.int 0) ∈ flatC zG0 ∧ Cond.arrayOf (.field (zTm i) "java/lang/String" "value" "[B") .byte ∈ flatC zG0 ∧ Cond.eq (.length (.field (zTm i) "java/lang/String" "value" "[B")) (.int (Int32.ofNat (zSl.getD i 0))) ∈ flatC zG0) := by decide +kernel
set_option maxRecDepth 100000 in
theorem zMemA : ((flatC zG0).drop 13).take 130 = (List.range 130).map (fun j => Cond.eq (.elem (.field (zTm 0) "java/lang/String" "value" "[B") (.int (Int32.ofNat j))) (.int ((zSb.getD 0 []).getD j 0))) := by rfl
set_option maxRecDepth 100000 in
theorem zMemB : ((flatC zG0).drop 147).take 14 = (List.range 14).map (fun j => Cond.eq (.elem (.field (zTm 1) "java/lang/String" "value" "[B") (.int (Int32.ofNat j))) (.int ((zSb.getD 1 []).getD j 0))) := by rfl
theorem zMem1 : ∀ i, i < 2 → ∀ j, j < zSl.getD i 0 → Cond.eq (.elem (.field (zTm i) "java/lang/String" "value" "[B") (.int (Int32.ofNat j))) (.int ((zSb.getD i []).getD j 0)) ∈ flatC zG0 := by
  intro i hi j hj
  rcases (show i = 0 ∨ i = 1 by omega) with rfl | rfl
  · have hj : j < 130 := hj
    refine List.mem_of_mem_drop (i := 13) (List.mem_of_mem_take (i := 130) ?_)
    rw [zMemA]
    exact List.mem_map.mpr ⟨j, List.mem_range.mpr hj, rfl⟩
  · have hj : j < 14 := hj
    refine List.mem_of_mem_drop (i := 147) (List.mem_of_mem_take (i := 14) ?_)
    rw [zMemB]
    exact List.mem_map.mpr ⟨j, List.mem_range.mpr hj, rfl⟩
theorem zMem2 : Cond.not (Cond.eq (zTm 0) (zTm 1)) ∈ flatC zG0 := by decide +kernel
theorem zMem3 : Cond.eq (.static "java/lang/String" "COMPACT_STRINGS" "Z") (.int 1) ∈ flatC zG0 := by decide +kernel
theorem zMem4 : Cond.isRef (.static "jdk/internal/util/Preconditions" "SIOOBE_FORMATTER" "Ljava/util/function/BiFunction;") ∈ flatC zG0 := by decide +kernel
theorem tw1 (i : Nat) {w : Cond} (h0 : tables_1_1[i]? = some w) : w ∈ lw_tbl := by
  have h := List.mem_of_getElem? h0
  exact List.mem_append_right _ (show w ∈ tables_1 from List.mem_append_left _ h)
theorem tw2 (i : Nat) {w : Cond} (h0 : tables_1_2[i]? = some w) : w ∈ lw_tbl := by
  have h := List.mem_of_getElem? h0
  exact List.mem_append_right _ (show w ∈ tables_1 from List.mem_append_right _ (List.mem_append_left _ h))
theorem tw3 (i : Nat) {w : Cond} (h0 : tables_1_3[i]? = some w) : w ∈ lw_tbl := by
  have h := List.mem_of_getElem? h0
  exact List.mem_append_right _ (show w ∈ tables_1 from List.mem_append_right _ (List.mem_append_right _ (List.mem_append_left _ h)))
theorem tw4 (i : Nat) {w : Cond} (h0 : tables_1_4[i]? = some w) : w ∈ lw_tbl := by
  have h := List.mem_of_getElem? h0
  exact List.mem_append_right _ (show w ∈ tables_1 from List.mem_append_right _ (List.mem_append_right _ (List.mem_append_right _ (List.mem_append_left _ h))))
theorem tw5 (i : Nat) {w : Cond} (h0 : tables_1_5[i]? = some w) : w ∈ lw_tbl := by
  have h := List.mem_of_getElem? h0
  exact List.mem_append_right _ (show w ∈ tables_1 from List.mem_append_right _ (List.mem_append_right _ (List.mem_append_right _ (List.mem_append_right _ (List.mem_append_left _ h)))))
theorem tw6 (i : Nat) {w : Cond} (h0 : tables_1_6[i]? = some w) : w ∈ lw_tbl := by
  have h := List.mem_of_getElem? h0
  exact List.mem_append_right _ (show w ∈ tables_1 from List.mem_append_right _ (List.mem_append_right _ (List.mem_append_right _ (List.mem_append_right _ (List.mem_append_right _ (List.mem_append_left _ h))))))
theorem tw7 (i : Nat) {w : Cond} (h0 : tables_1_7[i]? = some w) : w ∈ lw_tbl := by
  have h := List.mem_of_getElem? h0
  exact List.mem_append_right _ (show w ∈ tables_1 from List.mem_append_right _ (List.mem_append_right _ (List.mem_append_right _ (List.mem_append_right _ (List.mem_append_right _ (List.mem_append_right _ (List.mem_append_left _ h)))))))
theorem tw8 (i : Nat) {w : Cond} (h0 : tables_1_8[i]? = some w) : w ∈ lw_tbl := by
  have h := List.mem_of_getElem? h0
  exact List.mem_append_right _ (show w ∈ tables_1 from List.mem_append_right _ (List.mem_append_right _ (List.mem_append_right _ (List.mem_append_right _ (List.mem_append_right _ (List.mem_append_right _ (List.mem_append_right _ (List.mem_append_left _ h))))))))
theorem tw9 (i : Nat) {w : Cond} (h0 : tables_1_9[i]? = some w) : w ∈ lw_tbl := by
  have h := List.mem_of_getElem? h0
  exact List.mem_append_right _ (show w ∈ tables_1 from List.mem_append_right _ (List.mem_append_right _ (List.mem_append_right _ (List.mem_append_right _ (List.mem_append_right _ (List.mem_append_right _ (List.mem_append_right _ (List.mem_append_right _ (h)))))))))
theorem zNest0 {args : Array Value} {s : State} (hts : ∀ w ∈ lw_tbl, w.before args s = true) : zNest s := by
  intro x hx
  unfold zNl at hx
  simp only [List.mem_cons, List.not_mem_nil, or_false] at hx
  rcases hx with rfl | rfl | rfl | rfl | rfl | rfl | rfl | rfl | rfl | rfl | rfl | rfl | rfl | rfl | rfl | rfl | rfl | rfl | rfl | rfl | rfl | rfl | rfl
  · exact va_Nw.of rfl (hts _ (tw1 32 rfl))
  · exact va_Nw.of rfl (hts _ (tw1 50 rfl))
  · exact va_Nw.of rfl (hts _ (tw1 62 rfl))
  · exact va_Nw.of rfl (hts _ (tw1 81 rfl))
  · exact va_Nw.of rfl (hts _ (tw1 87 rfl))
  · exact va_Nw.of rfl (hts _ (tw2 36 rfl))
  · exact va_Nw.of rfl (hts _ (tw2 57 rfl))
  · exact va_Nw.of rfl (hts _ (tw3 124 rfl))
  · exact va_Nw.of rfl (hts _ (tw3 143 rfl))
  · exact va_Nw.of rfl (hts _ (tw3 200 rfl))
  · exact va_Nw.of rfl (hts _ (tw4 81 rfl))
  · exact va_Nw.of rfl (hts _ (tw4 139 rfl))
  · exact va_Nw.of rfl (hts _ (tw4 148 rfl))
  · exact va_Nw.of rfl (hts _ (tw4 183 rfl))
  · exact va_Nw.of rfl (hts _ (tw4 205 rfl))
  · exact va_Nw.of rfl (hts _ (tw4 208 rfl))
  · exact va_Nw.of rfl (hts _ (tw5 22 rfl))
  · exact va_Nw.of rfl (hts _ (tw5 31 rfl))
  · exact va_Nw.of rfl (hts _ (tw5 87 rfl))
  · exact va_Nw.of rfl (hts _ (tw5 98 rfl))
  · exact va_Nw.of rfl (hts _ (tw5 147 rfl))
  · exact va_Nw.of rfl (hts _ (tw5 152 rfl))
  · exact va_Nw.of rfl (hts _ (tw6 11 rfl))
theorem zKn0 {args : Array Value} {s : State} (hts : ∀ w ∈ TB, w.before args s = true) : ∃ D : va_G, ∀ (k : Nat) (q : vw_C), vwCl[k]? = some q → u_Kn s q.1 q.2.1 q.2.2 (D.1 k) (D.2 k) := by
  obtain ⟨c0, i0, h0⟩ := u_known (C := RX0) (T := TX0) (N := 13) (n := 13) hts inX0 (hts _ (tb1 223 rfl rfl))
  obtain ⟨c1, i1, h1⟩ := u_known (C := RX1) (T := TX1) (N := 4) (n := 4) hts inX1 (hts _ (tb2 35 rfl rfl))
  obtain ⟨c2, i2, h2⟩ := u_known (C := RX2) (T := TX2) (N := 3) (n := 3) hts inX2 (hts _ (tb1 61 rfl rfl))
  obtain ⟨c3, i3, h3⟩ := u_known (C := RX3) (T := TX3) (N := 2) (n := 2) hts inX3 (hts _ (tb2 56 rfl rfl))
  obtain ⟨c4, i4, h4⟩ := u_known (C := RX4) (T := TX4) (N := 4) (n := 4) hts inX4 (hts _ (tb1 78 rfl rfl))
  obtain ⟨c5, i5, h5⟩ := u_known (C := RX5) (T := TX5) (N := 11) (n := 11) hts inX5 (hts _ (tb2 71 rfl rfl))
  obtain ⟨c6, i6, h6⟩ := u_known (C := RX6) (T := TX6) (N := 16) (n := 16) hts inX6 (hts _ (tb1 80 rfl rfl))
  obtain ⟨c7, i7, h7⟩ := u_known (C := RX7) (T := TX7) (N := 1) (n := 1) hts inX7 (hts _ (tb1 49 rfl rfl))
  obtain ⟨c8, i8, h8⟩ := u_known (C := RX8) (T := TX8) (N := 6) (n := 6) hts inX8 (hts _ (tb1 86 rfl rfl))
  obtain ⟨c9, i9, h9⟩ := u_known (C := RX9) (T := TX9) (N := 2) (n := 2) hts inX9 (hts _ (tb1 31 rfl rfl))
  obtain ⟨c10, i10, h10⟩ := u_known (C := RX10) (T := TX10) (N := 11) (n := 11) hts inX10 (hts _ (tb1 23 rfl rfl))
  obtain ⟨c11, i11, h11⟩ := u_known (C := RX11) (T := TX11) (N := 79) (n := 79) hts inX11 (hts _ (tb6 34 rfl rfl))
  refine ⟨(fun k => match k with | 0 => c0 | 1 => c1 | 2 => c2 | 3 => c3 | 4 => c4 | 5 => c5 | 6 => c6 | 7 => c7 | 8 => c8 | 9 => c9 | 10 => c10 | _ => c11, fun k => match k with | 0 => i0 | 1 => i1 | 2 => i2 | 3 => i3 | 4 => i4 | 5 => i5 | 6 => i6 | 7 => i7 | 8 => i8 | 9 => i9 | 10 => i10 | _ => i11), ?_⟩
  intro k q hq
  match k, hq with
  | 0, hq => cases hq; exact h0
  | 1, hq => cases hq; exact h1
  | 2, hq => cases hq; exact h2
  | 3, hq => cases hq; exact h3
  | 4, hq => cases hq; exact h4
  | 5, hq => cases hq; exact h5
  | 6, hq => cases hq; exact h6
  | 7, hq => cases hq; exact h7
  | 8, hq => cases hq; exact h8
  | 9, hq => cases hq; exact h9
  | 10, hq => cases hq; exact h10
  | 11, hq => cases hq; exact h11
  | k + 12, hq => simp [vwCl] at hq
theorem zAr0 {args : Array Value} {s : State} {ty : FieldType} (h : (Cond.arrayClass ty).before args s = true) (hp : refKind ty = false) : ∃ cA : ClassId, ArrOfT s cA ty ∧ s.vm.findClass ("[" ++ ty.toString) = some cA := by
  obtain ⟨cA, k, comp, h1, h2, h3⟩ := Cond.arrayClass_spec h
  exact ⟨cA, fun n z => ⟨fun k h => (by cases h), k, h2, comp, h3⟩, h1⟩
theorem zKK0 {s : State} {b L : Nat} {xs : Nat → Int32} (hL : L ≤ 3072) (hts : ∀ w ∈ lw_tbl, w.before #[Value.ref b] s = true) (hX : va_X b L xs s s.heap) (hbl : b < s.heap.size) (hgv : zG0.before #[Value.ref b] s = true) : ∃ (xs' : Nat → Int32) (G : zG) (bb : zB), bb.1 + 1 = s.heap.size ∧ bb.2.2 90 = b ∧ zKK (zY0 (L, xs')) G bb (fun q => s.heap.size ≤ q) s := by
  have htb : ∀ w ∈ TB, w.before #[Value.ref b] s = true := fun w h => hts w (List.mem_filter.mp h).1
  have hfl := flat_of_before _ hgv
  have hA : ∀ a : Nat, a < s.heap.size → ¬ (fun q : Nat => s.heap.size ≤ q) a := fun a h => Nat.not_le.mpr h
  obtain ⟨D, hD⟩ := zKn0 htb
  obtain ⟨cI, aI1, aI2⟩ := zAr0 (htb _ ar_int) rfl
  obtain ⟨cJ, aJ1, aJ2⟩ := zAr0 (htb _ ar_long) rfl
  obtain ⟨cB, aB1, aB2⟩ := zAr0 (htb _ ar_byte) rfl
  obtain ⟨cZ, aZ1, aZ2⟩ := zAr0 (htb _ ar_boolean) rfl
  obtain ⟨adK, adV, hS, hev⟩ := vk_Sof (args := #[Value.ref b]) (s := s) (N := 2) (tm := zTm) (len := zSl) (byt := zSb) (A := fun q => s.heap.size ≤ q) (by decide) (fun i hi => hfl _ (zMem0 i hi).1) (fun i hi => hfl _ (zMem0 i hi).2.1) (fun i hi => hfl _ (zMem0 i hi).2.2.1) (fun i hi => hfl _ (zMem0 i hi).2.2.2) (fun i hi j hj => hfl _ (zMem1 i hi j hj))
    (fun i j hi hj hij => by
      have z := hfl _ zMem2
      rcases (show (i = 0 ∧ j = 1) ∨ (i = 1 ∧ j = 0) by omega) with ⟨rfl, rfl⟩ | ⟨rfl, rfl⟩
      · exact Or.inl z
      · exact Or.inr z) hA
  obtain ⟨v, hv, hvr⟩ := Cond.isRef_spec (hfl _ zMem4)
  have hZ1 : va_Z "java/lang/String" "COMPACT_STRINGS" "Z" (.int 1) (fun q => s.heap.size ≤ q) s s.heap := va_Zof (hts _ (tw2 86 rfl)) (hts _ (tw1 12 rfl)) (va_eqt (hfl _ zMem3)) hA
  have hZ2 : va_Z "jdk/internal/util/Preconditions" "SIOOBE_FORMATTER" "Ljava/util/function/BiFunction;" v (fun q => s.heap.size ≤ q) s s.heap := va_Zof (hts _ (tw2 102 rfl)) (hts _ (tw1 14 rfl)) hv hA
  obtain ⟨fm, fa, hfm⟩ : ∃ (fm : Int32) (fa : Nat), v = if fm = 0 then Value.null else Value.ref fa := by
    cases v with
    | null => exact ⟨0, 0, rfl⟩
    | ref a => exact ⟨1, a, rfl⟩
    | _ => cases hvr
  refine ⟨fun j => if j = 9999 then fm else xs j, (D, cI, cJ, cB, cZ), (s.heap.size - 1, adK, fun j => if j = 90 then b else if j = 89 then fa else adV j), by show s.heap.size - 1 + 1 = _; omega, rfl, ⟨hD, ?_⟩, zNest0 hts, ⟨?_, ?_, ?_, hZ1, ?_⟩, ⟨?_, hbl, hA b hbl⟩⟩
  · intro k q hq
    match k, hq with
    | 0, hq => cases hq; exact ⟨aI1, aI2⟩
    | 1, hq => cases hq; exact ⟨aJ1, aJ2⟩
    | 2, hq => cases hq; exact ⟨aB1, aB2⟩
    | 3, hq => cases hq; exact ⟨aZ1, aZ2⟩
    | k + 4, hq => simp at hq
  · refine ⟨fun i hi => ?_, hS.2⟩
    have z := hS.1 i hi
    show _ ∧ _ ∧ va_OF _ _ _ (.ref (if i = 90 then b else if i = 89 then fa else adV i)) _ _ _ _ ∧ va_T _ (if i = 90 then b else if i = 89 then fa else adV i) _ _ _ _ _
    rw [if_neg (by omega), if_neg (by omega)]
    exact z
  · exact vk_R.of (hts _ (tw2 76 rfl)) (hev 0 (by decide))
  · exact vk_R.of (hts _ (tw3 43 rfl)) (hev 1 (by decide))
  · have e : zt (s.heap.size - 1, adK, fun j => if j = 90 then b else if j = 89 then fa else adV j) (.ref (zFm (zY0 (L, fun j => if j = 9999 then fm else xs j)))) = v := by
      rw [hfm]
      by_cases hz : fm = 0
      · rw [if_pos hz]
        have e1 : zFm (zY0 (L, fun j => if j = 9999 then fm else xs j)) = 0 := by
          unfold zFm
          show (if (if (9999 : Nat) = 9999 then fm else xs 9999) = 0 then 0 else 1099) = 0
          rw [if_pos rfl, if_pos hz]
        rw [e1]
        rfl
      · rw [if_neg hz]
        have e1 : zFm (zY0 (L, fun j => if j = 9999 then fm else xs j)) = 1099 := by
          unfold zFm
          show (if (if (9999 : Nat) = 9999 then fm else xs 9999) = 0 then 0 else 1099) = 1099
          rw [if_pos rfl, if_neg hz]
        rw [e1]
        rfl
    rw [e]
    exact hZ2
  · obtain ⟨scr, q1, q2, q3, q4, q5⟩ := hX
    refine ⟨scr, q1, q2, q3, q4, fun j hj => ?_⟩
    have hj : j < L := hj
    show _ = some (Value.int (if j = 9999 then fm else xs j))
    rw [if_neg (by omega)]
    exact q5 j hj

/-! THE CLAIM OUT OF ONE WALK OF THE LAW'S BODY. Your part is whole_start (and what it stands on); all else here is the same for every law, but numbers. -/
def R_law : String := "BreathRoadLaw"
def lw_P (b : Addr) (xs : List Int32) (args : Array Value) (s : State) : Prop := args = #[.ref b] ∧ s.IntsAt b xs ∧ xs.length ≤ 3072 ∧ (Jvm.Cond.and given_1 narrow_1).before args s = true
def lw_Q (_ : Array Value) (s : State) (o : Outcome) (t : State) : Prop := o = .returned (some (.int 1)) ∧ Framed s o t [] 600000 7302249
def lw_Z (below : List Frame) (a : Array Value) (s : State) : State → Prop := fun t => ∃ o, t.status = .running ∧ Ended t below o ∧ lw_Q a s o t
/-- the law's own end, with 1 on the stack, nothing written that was there before, its room as the claim has it -/
theorem lw_ret {p : Program} {l : Launch} {e : Env} {s : State} {m : MethodId} {below : List Frame} {meth : Method} {c : Code} {b : Nat} (hx : p.tables.exec = Jvm.exec) (hb : c.code = code) (hr : meth.sig.returnType = ret) (hlocks : meth.locks = false) {pc : Nat} {H : Heap} {ls : Array Slot} (hdg : decode code pc = .ok (.ireturn, 1)) : W p l e room_1 s m #[Value.ref b] below meth c H [] 600000 7302249 (lw_Z below #[Value.ref b] s) (F0 m pc ls [.int 1]) := by
  intro T hT X
  obtain ⟨fs, hret, hrun, hended, hW, hframe⟩ := X.leave (v := some (.int 1)) (hlocks := hlocks) (fun h => by rw [hr] at h; cases h)
  have hmeth' : T.vm.method? m = some meth := X.method'
  refine ⟨T.setFrames fs, ?_, .returned (some (.int 1)), hrun, hended, rfl, ⟨_, rfl⟩, hW, hframe⟩
  jvm_step X.here [X.here.top, hx, hb, hdg, hmeth', hr, ret, narrow_b1]
  (try refine ⟨rfl, ?_⟩); (try refine ⟨rfl, ?_⟩)
  first | (intro acts; rw [hret _ acts rfl rfl rfl]) | rw [hret _ _ rfl rfl rfl]
  exact Steps.refl _
/-- what holds at the law's entry: the machine, the code, the tables' words (any of lw_tbl by 'hts w (by decide +kernel)'), the script of L ints xs at the cell b, what the Statement gives of the start (any of its parts by flat_of_before) -/
def lw_At (p : Program) (s : State) (m : MethodId) (meth : Method) (c : Code) (b L : Nat) (xs : Nat → Int32) : Prop :=
  p.tables.exec = Jvm.exec ∧ c.code = code ∧ meth.sig.returnType = ret ∧ c.maxLocals = 4 ∧ s.vm.findClass R_law = some m.cls ∧ (∀ w ∈ lw_tbl, w.before #[Value.ref b] s = true) ∧ va_X b L xs s s.heap ∧ b < s.heap.size ∧ meth.locks = false ∧ (Jvm.Cond.and given_1 narrow_1).before #[Value.ref b] s = true
/-- what is left: the functions of the two sides answer alike on every script -/
def zPure : Prop := ∀ (L : Nat) (xs : Nat → Int32), L ≤ 3072 → ∃ σ : zS, fL_law (L, xs) 0 σ0 = some (1, σ)
theorem whole_open (hpure : zPure) {p : Program} {e : Env} {s : State} {m : MethodId} {below : List Frame} {meth : Method} {c : Code} (l : Launch) {b L : Nat} {xs : Nat → Int32} (hL : L ≤ 3072) (C0 : lw_At p s m meth c b L xs) : W p l e room_1 s m #[Value.ref b] below meth c s.heap [] 0 0 (lw_Z below #[Value.ref b] s) (entryFrame m ([Value.ref b] : List Value).toArray 4) := by
  obtain ⟨hx, hb, hr, hml, hown, hts, hX, hbl, hlocks, hgv⟩ := C0
  obtain ⟨xs', G, bb, hbb, hb90, hKK⟩ := zKK0 hL hts hX hbl hgv
  obtain ⟨σ, hσ⟩ := hpure L xs' hL
  have hst := lawStart (sc := (L, xs')) (1, σ) hσ
  have En : zEn p s m #[Value.ref b] meth c mL_law := ⟨hx, hb, hml, hown, fun w hw => hts w (List.mem_filter.mp hw).1, hr, hlocks, fun z => absurd z (by decide)⟩
  have hl := lv_entry ([.ref b]) (n := 4) (Nat.le_of_ble_eq_true rfl)
  rw [lg_entry_eq]
  generalize (lg_sl ([.ref b]) ++ List.replicate (4 - (lg_sl ([.ref b])).length) Slot.unset).toArray = ls at hl ⊢
  have hl : lv_has ls 4 (zLs bb [(0, .ref 1100)]) := by
    have e : zLs bb [(0, .ref 1100)] = [(0, .ref b)] := by
      show [(0, zt bb (.ref 1100))] = _
      rw [show zt bb (.ref 1100) = .ref (bb.2.2 90) from rfl, hb90]
    rw [e]
    exact hl
  refine hst l p e s m #[Value.ref b] below meth c G (fun q => s.heap.size ≤ q) bb 600000 7302249 _ En (fun _ h => h) hKK ?_ s.heap [] 0 0 ls ?_ hl (by decide) (by decide)
  · intro pc' Ls' H locs i dg hi hnr hW
    cases hi
    refine va_forget (fun q hq => hW.2.2.1.2.2 q hq) ?_
    exact lw_ret hx hb hr hlocks dg
  · exact ⟨fun k q h => by simp [zW] at h, ⟨fun i j p q h => by simp [zW] at h, fun k q h => by simp [zW] at h⟩, va_S.rf, by show s.heap.size = bb.1 + 0 + 1; omega⟩

/-! MY OWN: String constants, a static, arraycopy. -/
theorem zt_str {b : zB} {i : Nat} (h : i < 10) : zt b (.ref (1000 + i)) = .ref (b.2.1 i) := by
  rw [zt_ref (by omega), za, if_neg (by omega), if_pos (by omega), Nat.add_sub_cancel_left]
theorem zt_byt {b : zB} {i : Nat} : zt b (.ref (1010 + i)) = .ref (b.2.2 i) := by
  rw [zt_ref (by omega), za, if_neg (by omega), if_neg (by omega), Nat.add_sub_cancel_left]
section ZS
variable {Y : zY} {d kc ks : Nat} {q : zMI} {pc : Nat} {ls : List (Nat × Value)} {st : List Value} {μ : zM} {o : Option Value × zM}
theorem zR.ldcS {idx : Nat} (i : Nat) (dg : decode q.2.1 pc = .ok (.ldc idx, 2)) (hs : q.1.cls = "BreathRoad$Reader" ∧ (i = 0 ∧ idx = 48 ∨ i = 1 ∧ idx = 109)) (h : zR Y d kc ks q (pc + 2) ls (.ref (1000 + i) :: st) μ o) : zR Y d kc ks q pc ls st μ o := by
  intro l p e s m args below meth c G A b mc ms Q En hA hK hQ H locs cells slots Ls hW hl h1 h2
  have hk := h l p e s m args below meth c G A b mc ms Q En hA hK hQ H locs cells slots Ls hW hl h1 h2
  have hown := En.2.2.2.1
  rw [hs.1] at hown
  rcases hs.2 with ⟨rfl, rfl⟩ | ⟨rfl, rfl⟩
  · rw [List.map_cons, zt_str (by omega)] at hk
    exact va_ldcS En.1 En.2.1 hown hK.2.2.1.2.1 dg hk
  · rw [List.map_cons, zt_str (by omega)] at hk
    exact va_ldcS En.1 En.2.1 hown hK.2.2.1.2.2.1 dg hk
theorem zR.strV {idx : Nat} (i : Nat) (dg : decode q.2.1 pc = .ok (.getfield idx, 3)) (hi : i < 2) (hw : Cond.fieldLink q.1.cls idx "java/lang/String" "value" "[B" ∈ TB) (h : zR Y d kc ks q (pc + 3) ls (.ref (1010 + i) :: st) μ o) : zR Y d kc ks q pc ls (.ref (1000 + i) :: st) μ o := by
  intro l p e s m args below meth c G A b mc ms Q En hA hK hQ H locs cells slots Ls hW hl h1 h2
  have hk := h l p e s m args below meth c G A b mc ms Q En hA hK hQ H locs cells slots Ls hW hl h1 h2
  rw [List.map_cons, zt_byt] at hk
  rw [List.map_cons, zt_str (by omega)]
  exact vk_getf En.1 En.2.1 (hK.2.2.1.1.1 i hi).2.2.1 hW.2.2.1 En.2.2.2.1 (En.2.2.2.2.1 _ hw) (fun _ z => z) dg hk
theorem zR.strC {idx : Nat} (i : Nat) (dg : decode q.2.1 pc = .ok (.getfield idx, 3)) (hi : i < 2) (hw : Cond.fieldLink q.1.cls idx "java/lang/String" "coder" "B" ∈ TB) (h : zR Y d kc ks q (pc + 3) ls (.int 0 :: st) μ o) : zR Y d kc ks q pc ls (.ref (1000 + i) :: st) μ o := by
  intro l p e s m args below meth c G A b mc ms Q En hA hK hQ H locs cells slots Ls hW hl h1 h2
  have hk := h l p e s m args below meth c G A b mc ms Q En hA hK hQ H locs cells slots Ls hW hl h1 h2
  rw [List.map_cons, zt_str (by omega)]
  exact vk_getf En.1 En.2.1 (hK.2.2.1.1.1 i hi).2.1 hW.2.2.1 En.2.2.2.1 (En.2.2.2.2.1 _ hw) (fun _ z => z) dg hk
theorem zR.strN (i : Nat) {v : Int32} (dg : decode q.2.1 pc = .ok (.arraylength, 1)) (hi : i < 2) (hv : Int32.ofNat (zSl.getD i 0) = v) (h : zR Y d kc ks q (pc + 1) ls (.int v :: st) μ o) : zR Y d kc ks q pc ls (.ref (1010 + i) :: st) μ o := by
  intro l p e s m args below meth c G A b mc ms Q En hA hK hQ H locs cells slots Ls hW hl h1 h2
  have hk := h l p e s m args below meth c G A b mc ms Q En hA hK hQ H locs cells slots Ls hW hl h1 h2
  rw [List.map_cons, zt_byt]
  exact va_tlen En.1 En.2.1 (hK.2.2.1.1.1 i hi).2.2.2 hW.2.2.1 hv dg hk
theorem zR.strB (i : Nat) {j : Int32} (dg : decode q.2.1 pc = .ok (.baload, 1)) (hi : i < 2) (hj : vp_in j (zSl.getD i 0)) (h : zR Y d kc ks q (pc + 1) ls (.int ((zSb.getD i []).getD j.toNatClampNeg 0) :: st) μ o) : zR Y d kc ks q pc ls (.int j :: .ref (1010 + i) :: st) μ o := by
  intro l p e s m args below meth c G A b mc ms Q En hA hK hQ H locs cells slots Ls hW hl h1 h2
  have hk := h l p e s m args below meth c G A b mc ms Q En hA hK hQ H locs cells slots Ls hW hl h1 h2
  rw [List.map_cons, List.map_cons, zt_byt]
  exact va_tb En.1 En.2.1 (hK.2.2.1.1.1 i hi).2.2.2 hW.2.2.1 hj rfl dg hk
theorem zR.getZ {idx : Nat} (dg : decode q.2.1 pc = .ok (.getstatic idx, 3)) (hw : Cond.fieldLink q.1.cls idx "java/lang/String" "COMPACT_STRINGS" "Z" ∈ TB) (h : zR Y d kc ks q (pc + 3) ls (.int 1 :: st) μ o) : zR Y d kc ks q pc ls st μ o := by
  intro l p e s m args below meth c G A b mc ms Q En hA hK hQ H locs cells slots Ls hW hl h1 h2
  have hk := h l p e s m args below meth c G A b mc ms Q En hA hK hQ H locs cells slots Ls hW hl h1 h2
  exact va_gets En.1 En.2.1 hK.2.2.1.2.2.2.1 hW.2.2.1 En.2.2.2.1 (En.2.2.2.2.1 _ hw) (fun _ z => z) dg hk
theorem zR.getFm {idx : Nat} (dg : decode q.2.1 pc = .ok (.getstatic idx, 3)) (hw : Cond.fieldLink q.1.cls idx "jdk/internal/util/Preconditions" "SIOOBE_FORMATTER" "Ljava/util/function/BiFunction;" ∈ TB) (h : zR Y d kc ks q (pc + 3) ls (.ref (zFm Y) :: st) μ o) : zR Y d kc ks q pc ls st μ o := by
  intro l p e s m args below meth c G A b mc ms Q En hA hK hQ H locs cells slots Ls hW hl h1 h2
  have hk := h l p e s m args below meth c G A b mc ms Q En hA hK hQ H locs cells slots Ls hW hl h1 h2
  exact va_gets En.1 En.2.1 hK.2.2.1.2.2.2.2 hW.2.2.1 En.2.2.2.1 (En.2.2.2.2.1 _ hw) (fun _ z => z) dg hk
variable {d' kc' ks' i n : Nat} {q' : zMI} {as : List Value} {r : Option Value} {μ1 : zM}
theorem zR.callT (j : Nat) (dg : decode q.2.1 pc = .ok (.invokevirtual i, 3)) (hd : d' + 1 ≤ d) (hm : zMv q.1.cls i q' n) (hj : j < 2) (hcn : q'.1.cls = "java/lang/String") (hn : as.length = n) (hst : (st.map fun v => v.category).sum ≤ 8) (hc : zC Y d' kc' ks' q' (.ref (1000 + j) :: as) μ (r, μ1)) (h : zR Y d kc ks q (pc + 3) ls (r.toList ++ st) μ1 o) : zR Y d (kc' + kc) (ks' + ks) q pc ls (as.reverse ++ .ref (1000 + j) :: st) μ o := by
  intro l p e s m args below meth c G A b mc ms Q En hA hK hQ H locs cells slots Ls hW hl h1 h2
  obtain ⟨m1, m2, m3, m4, m5, m6, m7⟩ := hm
  have hts := En.2.2.2.2.1
  have cw : CallW (zRm d mc ms) s args q.1.cls q'.1.cls i q'.1 q'.2.1 q'.2.2.1 q'.2.2.2 (Cond.code q'.1 q'.2.1 q'.2.2.1 q'.2.2.2 :: TB) (zRm d' kc' ks') kc' ks' n := ⟨callB_of n hts (zTB_good _ m5) rfl rfl rfl (hts _ m4) (hts _ m1) m6 (zRoom hd m7), hts _ m2, hts _ m3⟩
  have hpre := zPc_at (av := .ref (1000 + j) :: as) hW hA hK
  have hrc := vk_recv hK.2.2.1.1 hj hW.2.2.1
  rw [← hcn] at hrc
  rw [zStk]
  rw [List.map_cons] at hpre
  rw [zt_str (by omega)] at hpre ⊢
  refine zAfter (Y := Y) (G := G) (b := b) (μ := μ) (μ1 := μ1) (r := r) (av := (Value.ref (b.2.1 j) :: as.map (zt b)).toArray) ?_ hW hA (fun H1 locs1 hW1 => h l p e s m args below meth c G A b mc ms Q En hA hK hQ H1 locs1 (cells + kc') (slots + ks') Ls hW1 hl (by omega) (by omega))
  exact va_runV (As := as.map (zt b)) (rest := st.map (zt b)) ⟨En.1, En.2.1, En.2.2.1, En.2.2.2.1, hts⟩ (hc l G b) cw ⟨zPc_blind, hrc, hpre⟩ rfl (by rw [List.length_map]; exact hn) hl.1 rfl (by rw [zt_sum]; show 2 * 0 + _ ≤ 8; omega) dg ⟨by show cells + kc' ≤ mc; omega, by show slots + ks' ≤ ms; omega⟩
theorem zR.copyI {x y : Nat} {sp dp n : Int32} (dg : decode q.2.1 pc = .ok (.invokestatic i, 3)) (hd : 1 ≤ d) (hm : Cond.methodLink q.1.cls i arraycopyName ∈ TB ∧ Cond.native arraycopyName ∈ TB ∧ Cond.static arraycopyName ∈ TB ∧ Cond.initialized "java/lang/System" ∈ TB) (hx : zAt Y μ x 20) (hy : zAt Y μ y 20) (g1 : ¬ sp < 0) (g2 : ¬ dp < 0) (g3 : ¬ n < 0) (g4 : sp.toNatClampNeg + n.toNatClampNeg ≤ Y.2.1 x) (g5 : dp.toNatClampNeg + n.toNatClampNeg ≤ Y.2.1 y) (hst : (st.map fun v => v.category).sum ≤ 8) (h : zR Y d kc ks q (pc + 3) ls st (sA μ y (va_cpy (μ.1 x) (μ.1 y) sp.toNatClampNeg dp.toNatClampNeg n.toNatClampNeg)) o) : zR Y d kc ks q pc ls (.int n :: .int dp :: .ref y :: .int sp :: .ref x :: st) μ o := by
  intro l p e s m args below meth c G A b mc ms Q En hA hK hQ H locs cells slots Ls hW hl h1 h2
  have hts := En.2.2.2.2.1
  obtain ⟨x1, x2, x3⟩ := hx
  obtain ⟨y1, y2, y3⟩ := hy
  have hex := zW_get (Y := Y) (G := G) (b := b) (μ := μ) x1 x2
  rw [zCell_20 x3] at hex
  have hey := zW_get (Y := Y) (G := G) (b := b) (μ := μ) y1 y2
  rw [zCell_20 y3] at hey
  have nn : ∀ z : Int32, ¬ z < 0 → z.toInt = (z.toNatClampNeg : Int) := by
    intro z hz
    have hz0 : (0 : Int) ≤ z.toInt := by
      have := Int32.not_lt.mp hz
      simpa using Int32.le_iff_toInt_le.mp this
    show z.toInt = ((z.toInt.toNat : Nat) : Int)
    omega
  simp only [List.map_cons]
  rw [zt_ref x1, zt_ref y1]
  intro T hT X
  have hcx : H[za b x]? = some (vp_cell G.2.1 (Y.2.1 x, .inl (μ.1 x))) := hW.1 _ _ hex
  have hcy : H[za b y]? = some (vp_cell G.2.1 (Y.2.1 y, .inl (μ.1 y))) := hW.1 _ _ hey
  obtain ⟨-, k0, hk0, cm0, hkk0⟩ := (hK.1.2 0 _ rfl).1 (Y.2.1 x) (fun j => .int (μ.1 x j))
  obtain ⟨-, k1, hk1, cm1, hkk1⟩ := (hK.1.2 0 _ rfl).1 (Y.2.1 y) (fun j => .int (μ.1 y j))
  obtain ⟨vm', X', step⟩ := X.arraycopy En.1 En.2.2.2.1 (hts _ hm.1) (hts _ hm.2.1) (hts _ hm.2.2.1) (hts _ hm.2.2.2) (src := za b x) (dst := za b y) (cs := vp_cell G.2.1 (Y.2.1 x, .inl (μ.1 x))) (cd := vp_cell G.2.1 (Y.2.1 y, .inl (μ.1 y))) (srcPos := sp) (destPos := dp) (n := n) (by rw [hT]; exact hcx) (by rw [hT]; exact hcy)
    (fun _ z => by cases z) (fun _ z => by cases z) (fun z => by cases z) (fun z => by cases z) hk0 hk1 hkk0 hkk1 (by simp [refKind]) g1 g2 g3
    (by rw [nn sp g1, nn n g3]; show ¬ _ > ((arrV G.2.1 (Y.2.1 x) (fun j => .int (μ.1 x j))).slots.size : Int); rw [arrV_size]; omega)
    (by rw [nn dp g2, nn n g3]; show ¬ _ > ((arrV G.2.1 (Y.2.1 y) (fun j => .int (μ.1 y j))).slots.size : Int); rw [arrV_size]; omega)
    (fun vm₁ _ i hi => by
      have z : (vp_cell G.2.1 (Y.2.1 x, .inl (μ.1 x))).slots.getD (sp.toNatClampNeg + i) .null = .int (μ.1 x (sp.toNatClampNeg + i)) := by
        show (arrV G.2.1 (Y.2.1 x) (fun j => .int (μ.1 x j))).slots.getD _ _ = _
        rw [Array.getD_eq_getD_getElem?, arrV_read _ _ (by omega)]
        rfl
      rw [z]
      exact ⟨rfl, trivial⟩)
    (g := F0 m pc Ls (.int n :: .int dp :: .ref (za b y) :: .int sp :: .ref (za b x) :: st.map (zt b))) rfl (hl.1.trans En.2.2.1.symm) (rest := st.map (zt b)) rfl (by rw [En.2.1]; exact dg) hd (by rw [zt_sum]; show 2 * 0 + _ + _ ≤ 41 * d + 32; rw [show nativeFrameWords "java/lang/System" "arraycopy" 5 = 7 from by decide +kernel]; omega)
  have e1 : copied (vp_cell G.2.1 (Y.2.1 x, .inl (μ.1 x))) (vp_cell G.2.1 (Y.2.1 y, .inl (μ.1 y))) sp dp n = vp_cell G.2.1 (Y.2.1 y, .inl (va_cpy (μ.1 x) (μ.1 y) sp.toNatClampNeg dp.toNatClampNeg n.toNatClampNeg)) := va_copied (fun z => .int z) G.2.1 G.2.1 (μ.1 x) (μ.1 y) g4
  rw [e1] at X' step
  have hlt : za b y < H.size := (Array.getElem?_eq_some_iff.mp hcy).1
  generalize hc1 : vp_cell G.2.1 (Y.2.1 y, .inl (va_cpy (μ.1 x) (μ.1 y) sp.toNatClampNeg dp.toNatClampNeg n.toNatClampNeg)) = c1 at X' step
  have oq : ∀ z : Nat, z ≠ za b y → (H.setIfInBounds (za b y) c1)[z]? = H[z]? := fun z hz => by simp [Array.getElem?_setIfInBounds, Ne.symm hz]
  have hat : (H.setIfInBounds (za b y) c1)[za b y]? = some c1 := by simp [Array.getElem?_setIfInBounds, hlt]
  have hheap : ((T.setVm vm').setCell (za b y) c1).heap = H.setIfInBounds (za b y) c1 := by rw [← hT]; rfl
  have hW1 : zWd Y G A s b (sA μ y (va_cpy (μ.1 x) (μ.1 y) sp.toNatClampNeg dp.toNatClampNeg n.toNatClampNeg)) (H.setIfInBounds (za b y) c1) (locs ++ [⟨za b y, 0⟩]) := by
    refine hW.upd y1 y2 rfl ?_ (by simp) oq (fun z hz => zCell_of (va_up_ne _ _ hz) rfl rfl)
    rw [zCell_20 y3]
    show _ = some (vp_cell _ _)
    rw [hat, ← hc1]
    congr 3
    simp [sA, va_up]
  have hW2 : zWd Y G A s b (sA μ y (va_cpy (μ.1 x) (μ.1 y) sp.toNatClampNeg dp.toNatClampNeg n.toNatClampNeg)) (H.setIfInBounds (za b y) c1) (locs ++ ((vp_cell G.2.1 (Y.2.1 x, .inl (μ.1 x))).stretch sp.toNatClampNeg n.toNatClampNeg).zipIdx.map (fun (z : Value × Nat) => ({ base := za b y, slot := dp.toNatClampNeg + z.2 } : Loc))) := by
    refine ⟨hW1.1, hW1.2.1, ⟨hW1.2.2.1.1, hW1.2.2.1.2.1, fun z hz => ?_⟩, hW1.2.2.2⟩
    rcases List.mem_append.mp hz with z1 | z1
    · exact hW.2.2.1.2.2 z z1
    · obtain ⟨w, -, hw⟩ := List.mem_map.mp z1
      rw [← hw]
      exact hW.2.1.2 _ _ hey
  obtain ⟨t, a1, b1⟩ := h l p e s m args below meth c G A b mc ms Q En hA hK hQ _ _ cells slots Ls hW2 hl h1 h2 _ hheap X'
  exact ⟨t, step t a1, b1⟩
theorem zR.scN {v : Int32} (dg : decode q.2.1 pc = .ok (.arraylength, 1)) (hv : Int32.ofNat Y.2.2.1 = v) (h : zR Y d kc ks q (pc + 1) ls (.int v :: st) μ o) : zR Y d kc ks q pc ls (.ref 1100 :: st) μ o := by
  intro l p e s m args below meth c G A b mc ms Q En hA hK hQ H locs cells slots Ls hW hl h1 h2
  have hk := h l p e s m args below meth c G A b mc ms Q En hA hK hQ H locs cells slots Ls hW hl h1 h2
  subst hv
  exact va_slen En.1 En.2.1 hK.2.2.2.1 hK.2.2.2.2.1 hK.2.2.2.2.2 hW.2.2.1 dg hk
theorem zR.scI {j : Int32} (dg : decode q.2.1 pc = .ok (.iaload, 1)) (hj : vp_in j Y.2.2.1) (h : zR Y d kc ks q (pc + 1) ls (.int (Y.2.2.2 j.toNatClampNeg) :: st) μ o) : zR Y d kc ks q pc ls (.int j :: .ref 1100 :: st) μ o := by
  intro l p e s m args below meth c G A b mc ms Q En hA hK hQ H locs cells slots Ls hW hl h1 h2
  have hk := h l p e s m args below meth c G A b mc ms Q En hA hK hQ H locs cells slots Ls hW hl h1 h2
  exact va_sld En.1 En.2.1 hK.2.2.2.1 hK.2.2.2.2.1 hK.2.2.2.2.2 hW.2.2.1 hj dg hk
end ZS

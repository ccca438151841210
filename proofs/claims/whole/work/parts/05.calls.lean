/-! MY OWN: new cells, calls, the contract out of the walk. -/
theorem zW_push (Y : zY) (G : zG) (b : zB) (μ : zM) : zW Y G b (zNw μ) = zW Y G b μ ++ [(za b (μ.2.2.2 + 1), zCell Y G b (zNw μ) (μ.2.2.2 + 1))] := by
  unfold zW
  show (List.range (μ.2.2.2 + 1)).map _ = _
  rw [List.range_succ, List.map_append, List.map_singleton]
  congr 1
  refine List.map_congr_left fun i hi => ?_
  have hi := List.mem_range.mp hi
  rw [zCell_of (μ := μ) (μ' := zNw μ) (va_up_ne _ _ (by omega)) (va_up_ne _ _ (by omega)) (va_up_ne _ _ (by omega))]
/-- one cell made: the heap is as the new memory says -/
theorem zWd.push {Y : zY} {G : zG} {A : Nat → Prop} {s : State} {b : zB} {μ : zM} {H H1 : Heap} {locs : List Loc} (hW : zWd Y G A s b μ H locs) (hA : ∀ x, s.heap.size ≤ x → A x) (hn : μ.2.2.2 + 1 < 1000) (ha : va_at G.1 vwCl (b.1 + μ.2.2.2 + 1, zCell Y G b (zNw μ) (μ.2.2.2 + 1)) H1) (hz : H1.size = b.1 + μ.2.2.2 + 1 + 1) (ho : ∀ q : Nat, q < b.1 + μ.2.2.2 + 1 → H1[q]? = H[q]?) : zWd Y G A s b (zNw μ) H1 locs := by
  obtain ⟨hP, hD, hS, hs⟩ := hW
  have ez : za b (μ.2.2.2 + 1) = H.size := by rw [za_lo hn, hs]; rfl
  have hk : ∀ (k : Nat) (x : Nat × va_E), (zW Y G b μ)[k]? = some x → H1[x.1]? = H[x.1]? := fun k x hx => ho x.1 (by rw [← hs]; exact (hP k x hx).lt)
  refine ⟨?_, ?_, ⟨Nat.le_trans hS.1 (by omega), fun x g1 g2 => (ho x (by have := hS.1; omega)).trans (hS.2.1 x g1 g2), hS.2.2⟩, hz⟩
  · rw [zW_push]
    refine (hP.kept hk).app (fun k x hx => ?_)
    have hz : k < 1 := (List.getElem?_eq_some_iff.mp hx).1
    rw [show k = 0 by omega] at hx
    cases hx
    rw [ez, hs]
    exact ha
  · rw [zW_push, ez]
    exact hD.push hP rfl (hA _ hS.1)
def zPr (ty : FieldType) : Bool := match ty with
  | .float => false
  | .double => false
  | _ => true
theorem zPr_dv {b : zB} {μ : zM} {j : Nat} {ty : FieldType} (h : zPr ty = true) : defaultValue ty = zFv b (zNw μ) (μ.2.2.2 + 1) j ty := by
  have e1 : (zNw μ).1 (μ.2.2.2 + 1) j = 0 := by simp [zNw, va_up]
  have e2 : (zNw μ).2.1 (μ.2.2.2 + 1) j = 0 := by simp [zNw, va_up]
  have e3 : (zNw μ).2.2.1 (μ.2.2.2 + 1) j = 0 := by simp [zNw, va_up]
  unfold zFv
  cases ty <;> first | (simp only [e1]; rfl) | (simp only [e2]; rfl) | (simp only [e3]; rfl) | exact absurd h (by decide)
/-- the link own.i makes an object of the type ci -/
def zNo (own : String) (i ci : Nat) : Prop := ∃ (C : String) (T : u_T), vwCl[ci]? = some (C, T, zNf ci) ∧ Cond.classLink own i C ∈ TB ∧ Cond.instantiable C (zNf ci) ∈ TB ∧ Cond.initialized C ∈ TB ∧ ∀ j, j < zNf ci → zPr (zTy ci j) = true
theorem zt_new {b : zB} {n : Nat} (hn : n + 1 < 1000) : zt b (.ref (n + 1)) = .ref (b.1 + n + 1) := by
  rw [zt_ref (by omega), za_lo hn]
  rfl
section ZN
variable {Y : zY} {d kc ks : Nat} {q : zMI} {pc : Nat} {ls : List (Nat × Value)} {st : List Value} {μ : zM} {o : Option Value × zM}
theorem zR.new {i ci : Nat} (dg : decode q.2.1 pc = .ok (.new i, 3)) (hc : zCF ci) (hw : zNo q.1.cls i ci) (hk : Y.1 (μ.2.2.2 + 1) = ci) (hn : μ.2.2.2 + 1 < 1000) (h : zR Y d kc ks q (pc + 3) ls (.ref (μ.2.2.2 + 1) :: st) (zNw μ) o) : zR Y d (kc + 1) (ks + zNf ci) q pc ls st μ o := by
  intro l p e s m args below meth c G A b mc ms Q En hA hK hQ H locs cells slots Ls hW hl h1 h2
  obtain ⟨C, T, e1, w1, w2, w3, hpr⟩ := hw
  obtain ⟨C', T', e2, hin, hty, hnm, hc12⟩ := hc
  cases e1.symm.trans e2
  have hts := En.2.2.2.2.1
  have hKn := hK.1.1 ci _ e2
  refine W.newcK En.1 En.2.1 En.2.2.2.1 (hts _ w1) (hts _ w2) (hts _ w3) rfl dg (by show cells + 1 ≤ mc; omega) (by show slots + _ ≤ ms; omega) hKn.2.1 hW.2.2.2 fun H1 kC hkC g1 g2 g3 => ?_
  have hk' := h l p e s m args below meth c G A b mc ms Q En hA hK hQ H1 locs (cells + 1) (slots + zNf ci) Ls (hW.push hA hn ?_ g2 g3) hl (by omega) (by omega)
  · rw [List.map_cons, zt_new hn] at hk'
    exact hk'
  · rw [zCell_obj hk hc12]
    exact ⟨_, e2, (u_born (zTy ci) hts hin hKn hkC g1 hty).to (fun j hj => by rw [vp_V, List.getD_eq_getElem?_getD, zFs_get hj]; exact zPr_dv (hpr j hj))⟩
theorem zR.newI {n : Int32} {N : Nat} (dg : decode q.2.1 pc = .ok (.newarray .int, 2)) (hw : Cond.arrayClass .int ∈ TB) (hk : Y.1 (μ.2.2.2 + 1) = 20) (hy : Y.2.1 (μ.2.2.2 + 1) = N) (hn0 : ¬ n < 0) (hN : n.toNatClampNeg = N) (hN2 : N ≤ 10000) (hn : μ.2.2.2 + 1 < 1000) (h : zR Y d kc ks q (pc + 2) ls (.ref (μ.2.2.2 + 1) :: st) (zNw μ) o) : zR Y d (kc + 1) (ks + N) q pc ls (.int n :: st) μ o := by
  intro l p e s m args below meth c G A b mc ms Q En hA hK hQ H locs cells slots Ls hW hl h1 h2
  refine va_newaK En.1 En.2.1 (atype := .int) (En.2.2.2.2.1 _ hw) rfl dg rfl hn0 hN (by show N * _ ≤ _; simp only [newarray.typeOf, componentBytes]; omega) (by show cells + 1 ≤ mc; omega) (by show slots + _ ≤ ms; omega) hW.2.2.2 fun H1 cA g1 g2 g3 g4 g5 => ?_
  have ec : cA = G.2.1 := Option.some.inj (g5.symm.trans (hK.1.2 0 _ rfl).2)
  have hk' := h l p e s m args below meth c G A b mc ms Q En hA hK hQ H1 locs (cells + 1) (slots + N) Ls (hW.push hA hn ?_ g2 g3) hl (by omega) (by omega)
  · rw [List.map_cons, zt_new hn] at hk'
    exact hk'
  · rw [zCell_20 hk, hy]
    show H1[b.1 + μ.2.2.2 + 1]? = some (vp_cell _ _)
    rw [g1, vp_cell_i, ec]
    congr 2
    funext j
    simp [newarray.typeOf, defaultValue, zNw, va_up]
theorem zR.newL {n : Int32} {N : Nat} (dg : decode q.2.1 pc = .ok (.newarray .long, 2)) (hw : Cond.arrayClass .long ∈ TB) (hk : Y.1 (μ.2.2.2 + 1) = 21) (hy : Y.2.1 (μ.2.2.2 + 1) = N) (hn0 : ¬ n < 0) (hN : n.toNatClampNeg = N) (hN2 : N ≤ 10000) (hn : μ.2.2.2 + 1 < 1000) (h : zR Y d kc ks q (pc + 2) ls (.ref (μ.2.2.2 + 1) :: st) (zNw μ) o) : zR Y d (kc + 1) (ks + N) q pc ls (.int n :: st) μ o := by
  intro l p e s m args below meth c G A b mc ms Q En hA hK hQ H locs cells slots Ls hW hl h1 h2
  refine va_newaK En.1 En.2.1 (atype := .long) (En.2.2.2.2.1 _ hw) rfl dg rfl hn0 hN (by show N * _ ≤ _; simp only [newarray.typeOf, componentBytes]; omega) (by show cells + 1 ≤ mc; omega) (by show slots + _ ≤ ms; omega) hW.2.2.2 fun H1 cA g1 g2 g3 g4 g5 => ?_
  have ec : cA = G.2.2.1 := Option.some.inj (g5.symm.trans (hK.1.2 1 _ rfl).2)
  have hk' := h l p e s m args below meth c G A b mc ms Q En hA hK hQ H1 locs (cells + 1) (slots + N) Ls (hW.push hA hn ?_ g2 g3) hl (by omega) (by omega)
  · rw [List.map_cons, zt_new hn] at hk'
    exact hk'
  · rw [zCell_21 hk, hy]
    show H1[b.1 + μ.2.2.2 + 1]? = some (vp_cell _ _)
    rw [g1, vp_cell_l, ec]
    congr 2
    funext j
    simp [newarray.typeOf, defaultValue, zNw, va_up]
theorem zR.newB {n : Int32} {N : Nat} (dg : decode q.2.1 pc = .ok (.newarray .byte, 2)) (hw : Cond.arrayClass .byte ∈ TB) (hk : Y.1 (μ.2.2.2 + 1) = 22) (hy : Y.2.1 (μ.2.2.2 + 1) = N) (hn0 : ¬ n < 0) (hN : n.toNatClampNeg = N) (hN2 : N ≤ 10000) (hn : μ.2.2.2 + 1 < 1000) (h : zR Y d kc ks q (pc + 2) ls (.ref (μ.2.2.2 + 1) :: st) (zNw μ) o) : zR Y d (kc + 1) (ks + N) q pc ls (.int n :: st) μ o := by
  intro l p e s m args below meth c G A b mc ms Q En hA hK hQ H locs cells slots Ls hW hl h1 h2
  refine va_newaK En.1 En.2.1 (atype := .byte) (En.2.2.2.2.1 _ hw) rfl dg rfl hn0 hN (by show N * _ ≤ _; simp only [newarray.typeOf, componentBytes]; omega) (by show cells + 1 ≤ mc; omega) (by show slots + _ ≤ ms; omega) hW.2.2.2 fun H1 cA g1 g2 g3 g4 g5 => ?_
  have ec : cA = G.2.2.2.1 := Option.some.inj (g5.symm.trans (hK.1.2 2 _ rfl).2)
  have hk' := h l p e s m args below meth c G A b mc ms Q En hA hK hQ H1 locs (cells + 1) (slots + N) Ls (hW.push hA hn ?_ g2 g3) hl (by omega) (by omega)
  · rw [List.map_cons, zt_new hn] at hk'
    exact hk'
  · rw [zCell_22 hk, hy]
    show H1[b.1 + μ.2.2.2 + 1]? = some (vp_cell _ _)
    rw [g1, vp_cell_i, ec]
    congr 2
    funext j
    simp [newarray.typeOf, defaultValue, zNw, va_up]
theorem zR.newZ {n : Int32} {N : Nat} (dg : decode q.2.1 pc = .ok (.newarray .boolean, 2)) (hw : Cond.arrayClass .boolean ∈ TB) (hk : Y.1 (μ.2.2.2 + 1) = 23) (hy : Y.2.1 (μ.2.2.2 + 1) = N) (hn0 : ¬ n < 0) (hN : n.toNatClampNeg = N) (hN2 : N ≤ 10000) (hn : μ.2.2.2 + 1 < 1000) (h : zR Y d kc ks q (pc + 2) ls (.ref (μ.2.2.2 + 1) :: st) (zNw μ) o) : zR Y d (kc + 1) (ks + N) q pc ls (.int n :: st) μ o := by
  intro l p e s m args below meth c G A b mc ms Q En hA hK hQ H locs cells slots Ls hW hl h1 h2
  refine va_newaK En.1 En.2.1 (atype := .boolean) (En.2.2.2.2.1 _ hw) rfl dg rfl hn0 hN (by show N * _ ≤ _; simp only [newarray.typeOf, componentBytes]; omega) (by show cells + 1 ≤ mc; omega) (by show slots + _ ≤ ms; omega) hW.2.2.2 fun H1 cA g1 g2 g3 g4 g5 => ?_
  have ec : cA = G.2.2.2.2 := Option.some.inj (g5.symm.trans (hK.1.2 3 _ rfl).2)
  have hk' := h l p e s m args below meth c G A b mc ms Q En hA hK hQ H1 locs (cells + 1) (slots + N) Ls (hW.push hA hn ?_ g2 g3) hl (by omega) (by omega)
  · rw [List.map_cons, zt_new hn] at hk'
    exact hk'
  · rw [zCell_23 hk, hy]
    show H1[b.1 + μ.2.2.2 + 1]? = some (vp_cell _ _)
    rw [g1, vp_cell_i, ec]
    congr 2
    funext j
    simp [newarray.typeOf, defaultValue, zNw, va_up]
end ZN
theorem zKK.moved {Y : zY} {G : zG} {b : zB} {A A' : Nat → Prop} {s U : State} {locs : List Loc} (hW : s.WarmedH U.vm) (hS : va_S A s.heap U.heap locs) (hA : ∀ x, A' x → A x) (h : zKK Y G b A s) : zKK Y G b A' U := by
  obtain ⟨g1, g2, ⟨g3, g4, g5, g6, g6'⟩, g7, g8, g9⟩ := h
  exact ⟨va_K.moved hW.alike g1, fun x hx => va_Nw.warmM hW (g2 x hx), ⟨((g3.kept hS.2.1).narrow hA).moved hW.alike, g4.warm hW, g5.warm hW, ((g6.kept hS.2.1).narrow hA).moved hW.alike, ((g6'.kept hS.2.1).narrow hA).moved hW.alike⟩, (g7.kept (hS.2.1 _ g8 g9)).moved hW.alike, Nat.lt_of_lt_of_le g8 hS.1, fun z => g9 (hA _ z)⟩
theorem zKK.same {Y : zY} {G : zG} {b : zB} {A : Nat → Prop} {u U : State} (hv : U.vm = u.vm) (hh : U.heap = u.heap) (h : zKK Y G b A u) : zKK Y G b A U := by
  obtain ⟨g1, g2, ⟨g3, g4, g5, g6, g6'⟩, g7, g8, g9⟩ := h
  have al : u.vm.Alike U.vm := by rw [hv]; exact Vm.Alike.refl u.vm
  refine ⟨va_K.moved al g1, fun x hx => va_Nw.same rfl hv.symm (g2 x hx), ⟨?_, g4.same hv, g5.same hv, ?_, by rw [hh]; exact g6'.moved al⟩, by rw [hh]; exact g7.moved al, by rw [hh]; exact g8, g9⟩
  · rw [hh]; exact g3.moved al
  · rw [hh]; exact g6.moved al
abbrev zA (Y : zY) (G : zG) (b : zB) (μ : zM) : Nat → Prop := va_A (zW Y G b μ) (b.1 + μ.2.2.2 + 1)
theorem zA_sub {Y : zY} {G : zG} {A : Nat → Prop} {s : State} {b : zB} {μ : zM} {H : Heap} {locs : List Loc} (hW : zWd Y G A s b μ H locs) (hA : ∀ x, s.heap.size ≤ x → A x) : ∀ x, zA Y G b μ x → A x := by
  intro x hx
  rcases hx with ⟨k, e, h⟩ | h
  · exact hW.2.1.2 k (x, e) h
  · exact hA x (Nat.le_trans hW.2.2.1.1 (by rw [hW.2.2.2]; exact h))
/-- what a contract asks -/
abbrev zPc (Y : zY) (G : zG) (b : zB) (av : List Value) (μ : zM) : Array Value → State → Prop := va_Pc (av.map (zt b)) (fun U => U.heap.size = b.1 + μ.2.2.2 + 1 ∧ va_P G.1 vwCl (zW Y G b μ) U.heap ∧ zKK Y G b (zA Y G b μ) U ∧ va_D (fun _ => True) (zW Y G b μ))
theorem zPc_blind {Y : zY} {G : zG} {b : zB} {av : List Value} {μ : zM} : FrameBlind (zPc Y G b av μ) := by
  intro a U g mk q
  obtain ⟨q0, q1, q2, q3, q4⟩ := q
  exact ⟨q0, q1, q2, zKK.same (u := U) (U := U.calling g mk a) rfl rfl q3, q4⟩
theorem zPc_at {Y : zY} {G : zG} {A : Nat → Prop} {s : State} {b : zB} {μ : zM} {H : Heap} {locs : List Loc} {av : List Value} (hW : zWd Y G A s b μ H locs) (hA : ∀ x, s.heap.size ≤ x → A x) (hK : zKK Y G b A s) : ∀ U : State, U.heap = H → s.WarmedH U.vm → zPc Y G b av μ (av.map (zt b)).toArray U := by
  intro U hU hw
  have hsub := zA_sub hW hA
  obtain ⟨hP, hD, hS, hs⟩ := hW
  exact ⟨rfl, by rw [hU]; exact hs, by rw [hU]; exact hP, hK.moved hw (by rw [hU]; exact hS) hsub, hD.weaken (fun _ _ _ _ => trivial)⟩
theorem zTB_good (w : Cond) (h : w ∈ TB) : GoodIn TB (w :: TB) := by
  intro x hx
  rcases List.mem_cons.mp hx with rfl | hx
  · exact tb_good _ h
  · exact tb_good _ hx
/-- behind a call -/
theorem zAfter {p : Program} {l : Launch} {e : Env} {s : State} {m : MethodId} {args : Array Value} {below : List Frame} {meth : Method} {c : Code} {H : Heap} {locs : List Loc} {cells slots kc' ks' d mc ms pc : Nat} {Q : State → Prop} {Ls : Array Slot} {stk st : List Value} {Y : zY} {G : zG} {A : Nat → Prop} {b : zB} {μ μ1 : zM} {r : Option Value} {av : Array Value}
    (run : va_Run p l e (zRm d mc ms) s m args below meth c H locs cells slots kc' ks' (F0 m pc Ls stk) (st.map (zt b)) (zQ Y G (zA Y G b μ) b (r, μ1) av) (zA Y G b μ)) (hW : zWd Y G A s b μ H locs) (hA : ∀ x, s.heap.size ≤ x → A x)
    (k : ∀ (H1 : Heap) (locs1 : List Loc), zWd Y G A s b μ1 H1 locs1 → W p l e (zRm d mc ms) s m args below meth c H1 locs1 (cells + kc') (slots + ks') Q (F0 m (pc + 3) Ls ((r.toList ++ st).map (zt b)))) : W p l e (zRm d mc ms) s m args below meth c H locs cells slots Q (F0 m pc Ls stk) := by
  intro T hT X
  obtain ⟨v, st₀, t, T', L, e0, X', hL, e1, e2, ⟨hv, hP1, hD1, hF, hz⟩, goes⟩ := run T hT X
  cases hv
  have hsub := zA_sub hW hA
  obtain ⟨hP, hD, hS, hs⟩ := hW
  have hWd : zWd Y G A s b μ1 T'.heap (locs ++ L) := by
    rw [e1]
    refine ⟨hP1, hD1.weaken (fun _ _ _ h => hsub _ h), ⟨?_, ?_, ?_⟩, hz⟩
    · exact Nat.le_trans hS.1 (by rw [← e0]; exact hF.1)
    · intro x g1 g2
      rw [hF.2 x (by rw [e0]; exact Nat.lt_of_lt_of_le g1 hS.1) (fun z => g2 (hsub _ z)), e0]
      exact hS.2.1 x g1 g2
    · intro x hx
      rcases List.mem_append.mp hx with h | h
      · exact hS.2.2 x h
      · exact hsub _ (hL x h)
  obtain ⟨t2, a1, b1⟩ := k T'.heap (locs ++ L) hWd T' rfl X'
  refine ⟨t2, goes t2 ?_, b1⟩
  rw [List.map_append] at a1
  have e3 : (Option.map (zt b) r).toList = r.toList.map (zt b) := by cases r <;> rfl
  rw [e3]
  exact a1
/-- the words of a call: virtual, static, a constructor's; the last two of a nest mate -/
def zMv (own : String) (i : Nat) (q : zMI) (n : Nat) : Prop := Cond.methodLink own i q.1 ∈ TB ∧ Cond.instanceMethod q.1 ∈ TB ∧ Cond.selects q.1.cls q.1 q.1 ∈ TB ∧ Cond.initialized q.1.cls ∈ TB ∧ Cond.code q.1 q.2.1 q.2.2.1 q.2.2.2 ∈ TB ∧ (q.1.cls ≠ "java/lang/invoke/MethodHandle" ∧ q.1.cls ≠ "java/lang/invoke/VarHandle" ∧ (parseMethodDescriptor q.1.desc).map (fun d => d.parameters.length) = some n) ∧ q.2.2.1 ≤ 22
def zMs (own : String) (i : Nat) (q : zMI) (n : Nat) : Prop := Cond.methodLink own i q.1 ∈ TB ∧ Cond.static q.1 ∈ TB ∧ Cond.initialized q.1.cls ∈ TB ∧ Cond.code q.1 q.2.1 q.2.2.1 q.2.2.2 ∈ TB ∧ (q.1.cls ≠ "java/lang/invoke/MethodHandle" ∧ q.1.cls ≠ "java/lang/invoke/VarHandle" ∧ (parseMethodDescriptor q.1.desc).map (fun d => d.parameters.length) = some n) ∧ q.2.2.1 ≤ 22
def zMt (own : String) (i : Nat) (q : zMI) (n : Nat) : Prop := (∃ host, (own, i, q.1, host) ∈ zNl) ∧ Cond.static q.1 ∈ TB ∧ Cond.initialized q.1.cls ∈ TB ∧ Cond.code q.1 q.2.1 q.2.2.1 q.2.2.2 ∈ TB ∧ (q.1.cls ≠ "java/lang/invoke/MethodHandle" ∧ q.1.cls ≠ "java/lang/invoke/VarHandle" ∧ (parseMethodDescriptor q.1.desc).map (fun d => d.parameters.length) = some n) ∧ q.2.2.1 ≤ 22
def zMi (own : String) (i : Nat) (q : zMI) (n : Nat) : Prop := (Cond.methodLink own i q.1 ∈ TB ∨ ∃ host, (own, i, q.1, host) ∈ zNl) ∧ q.1.name = "<init>" ∧ q.2.2.2 = none ∧ Cond.instanceMethod q.1 ∈ TB ∧ Cond.initialized q.1.cls ∈ TB ∧ Cond.code q.1 q.2.1 q.2.2.1 q.2.2.2 ∈ TB ∧ (q.1.cls ≠ "java/lang/invoke/MethodHandle" ∧ q.1.cls ≠ "java/lang/invoke/VarHandle" ∧ (parseMethodDescriptor q.1.desc).map (fun d => d.parameters.length) = some n) ∧ q.2.2.1 ≤ 22
theorem zStk (b : zB) (as : List Value) (x : Value) (st : List Value) : (as.reverse ++ x :: st).map (zt b) = (as.map (zt b)).reverse ++ zt b x :: st.map (zt b) := by
  rw [List.map_append, List.map_reverse, List.map_cons]
theorem zStk2 (b : zB) (as : List Value) (st : List Value) : (as.reverse ++ st).map (zt b) = (as.map (zt b)).reverse ++ st.map (zt b) := by
  rw [List.map_append, List.map_reverse]
theorem zRoom {d d' mc ms kc ks L : Nat} (hd : d' + 1 ≤ d) (hL : L ≤ 22) : (zRm d' kc ks).frames + 1 ≤ (zRm d mc ms).frames ∧ 8 + (L + 11) + (zRm d' kc ks).locals ≤ (zRm d mc ms).locals := by
  refine ⟨hd, ?_⟩
  show 8 + (L + 11) + (41 * d' + 32) ≤ 41 * d + 32
  omega
section ZC
variable {Y : zY} {d kc ks : Nat} {q : zMI} {pc : Nat} {ls : List (Nat × Value)} {st : List Value} {μ : zM} {o : Option Value × zM}
variable {d' kc' ks' i n : Nat} {q' : zMI} {as : List Value} {r : Option Value} {μ1 : zM}
theorem zR.callV {x ci : Nat} (dg : decode q.2.1 pc = .ok (.invokevirtual i, 3)) (hd : d' + 1 ≤ d) (hm : zMv q.1.cls i q' n) (hx : zAt Y μ x ci) (hci : ci < 12) (hcn : (vwCl[ci]?).map (fun z => z.1) = some q'.1.cls) (hn : as.length = n) (hst : (st.map fun v => v.category).sum ≤ 8) (hc : zC Y d' kc' ks' q' (.ref x :: as) μ (r, μ1)) (h : zR Y d kc ks q (pc + 3) ls (r.toList ++ st) μ1 o) : zR Y d (kc' + kc) (ks' + ks) q pc ls (as.reverse ++ .ref x :: st) μ o := by
  intro l p e s m args below meth c G A b mc ms Q En hA hK hQ H locs cells slots Ls hW hl h1 h2
  obtain ⟨m1, m2, m3, m4, m5, m6, m7⟩ := hm
  obtain ⟨x1, x2, x3⟩ := hx
  have hts := En.2.2.2.2.1
  have he := zW_get (Y := Y) (G := G) (b := b) (μ := μ) x1 x2
  rw [zCell_obj x3 hci] at he
  have hcl : ∃ T N, vwCl[ci]? = some (q'.1.cls, T, N) := by
    cases hz : vwCl[ci]? with
    | none => rw [hz] at hcn; cases hcn
    | some z =>
      rw [hz] at hcn
      obtain ⟨z1, z2, z3⟩ := z
      cases hcn
      exact ⟨z2, z3, rfl⟩
  obtain ⟨T, N, hcl⟩ := hcl
  have cw : CallW (zRm d mc ms) s args q.1.cls q'.1.cls i q'.1 q'.2.1 q'.2.2.1 q'.2.2.2 (Cond.code q'.1 q'.2.1 q'.2.2.1 q'.2.2.2 :: TB) (zRm d' kc' ks') kc' ks' n := ⟨callB_of n hts (zTB_good _ m5) rfl rfl rfl (hts _ m4) (hts _ m1) m6 (zRoom hd m7), hts _ m2, hts _ m3⟩
  have hpre := zPc_at (av := .ref x :: as) hW hA hK
  rw [zStk]
  rw [List.map_cons] at hpre
  rw [zt_ref x1] at hpre ⊢
  refine zAfter (Y := Y) (G := G) (b := b) (μ := μ) (μ1 := μ1) (r := r) (av := (Value.ref (za b x) :: as.map (zt b)).toArray) ?_ hW hA (fun H1 locs1 hW1 => h l p e s m args below meth c G A b mc ms Q En hA hK hQ H1 locs1 (cells + kc') (slots + ks') Ls hW1 hl (by omega) (by omega))
  exact va_runV (As := as.map (zt b)) (rest := st.map (zt b)) ⟨En.1, En.2.1, En.2.2.1, En.2.2.2.1, hts⟩ (hc l G b) cw ⟨zPc_blind, va_recv hK.1 hW.1 hcl he, hpre⟩ rfl (by rw [List.length_map]; exact hn) hl.1 rfl (by rw [zt_sum]; show 2 * 0 + _ ≤ 8; omega) dg ⟨by show cells + kc' ≤ mc; omega, by show slots + ks' ≤ ms; omega⟩
theorem zR.callS (dg : decode q.2.1 pc = .ok (.invokestatic i, 3)) (hd : d' + 1 ≤ d) (hm : zMs q.1.cls i q' n ∨ zMt q.1.cls i q' n) (hn : as.length = n) (hst : (st.map fun v => v.category).sum ≤ 8) (hc : zC Y d' kc' ks' q' as μ (r, μ1)) (h : zR Y d kc ks q (pc + 3) ls (r.toList ++ st) μ1 o) : zR Y d (kc' + kc) (ks' + ks) q pc ls (as.reverse ++ st) μ o := by
  intro l p e s m args below meth c G A b mc ms Q En hA hK hQ H locs cells slots Ls hW hl h1 h2
  have hts := En.2.2.2.2.1
  have hpre := zPc_at (av := as) hW hA hK
  rw [zStk2]
  refine zAfter (Y := Y) (G := G) (b := b) (μ := μ) (μ1 := μ1) (r := r) (av := (as.map (zt b)).toArray) ?_ hW hA (fun H1 locs1 hW1 => h l p e s m args below meth c G A b mc ms Q En hA hK hQ H1 locs1 (cells + kc') (slots + ks') Ls hW1 hl (by omega) (by omega))
  rcases hm with ⟨m1, m2, m4, m5, m6, m7⟩ | ⟨⟨host, m1⟩, m2, m4, m5, m6, m7⟩
  · exact va_runS (As := as.map (zt b)) (rest := st.map (zt b)) ⟨En.1, En.2.1, En.2.2.1, En.2.2.2.1, hts⟩ (hc l G b) ⟨callB_of n hts (zTB_good _ m5) rfl rfl rfl (hts _ m4) (hts _ m1) m6 (zRoom hd m7), hts _ m2⟩ ⟨zPc_blind, hpre⟩ rfl (by rw [List.length_map]; exact hn) hl.1 rfl (by rw [zt_sum]; show 2 * 0 + _ ≤ 8; omega) dg ⟨by show cells + kc' ≤ mc; omega, by show slots + ks' ≤ ms; omega⟩
  · exact va_runSN (As := as.map (zt b)) (rest := st.map (zt b)) ⟨En.1, En.2.1, En.2.2.1, En.2.2.2.1, hts⟩ (hc l G b) ⟨va_cnB n hts (zTB_good _ m5) rfl rfl rfl (hK.2.1 _ m1) (hts _ m4) m6 (zRoom hd m7), hts _ m2, trivial⟩ ⟨zPc_blind, hpre⟩ rfl (by rw [List.length_map]; exact hn) hl.1 rfl (by rw [zt_sum]; show 2 * 0 + _ ≤ 8; omega) dg ⟨by show cells + kc' ≤ mc; omega, by show slots + ks' ≤ ms; omega⟩
theorem zR.callI {x : Nat} (dg : decode q.2.1 pc = .ok (.invokespecial i, 3)) (hd : d' + 1 ≤ d) (hm : zMi q.1.cls i q' n) (hx : 1 ≤ x) (hn : as.length = n) (hst : (st.map fun v => v.category).sum ≤ 8) (hc : zC Y d' kc' ks' q' (.ref x :: as) μ (none, μ1)) (h : zR Y d kc ks q (pc + 3) ls st μ1 o) : zR Y d (kc' + kc) (ks' + ks) q pc ls (as.reverse ++ .ref x :: st) μ o := by
  intro l p e s m args below meth c G A b mc ms Q En hA hK hQ H locs cells slots Ls hW hl h1 h2
  have hts := En.2.2.2.2.1
  have hpre := zPc_at (av := .ref x :: as) hW hA hK
  rw [zStk]
  rw [List.map_cons] at hpre
  rw [zt_ref hx] at hpre ⊢
  refine zAfter (Y := Y) (G := G) (b := b) (μ := μ) (μ1 := μ1) (r := none) (av := (Value.ref (za b x) :: as.map (zt b)).toArray) ?_ hW hA (fun H1 locs1 hW1 => h l p e s m args below meth c G A b mc ms Q En hA hK hQ H1 locs1 (cells + kc') (slots + ks') Ls hW1 hl (by omega) (by omega))
  obtain ⟨m1, my, mr, m2, m4, m5, m6, m7⟩ := hm
  obtain ⟨y, bytes, maxL, ret⟩ := q'
  dsimp only at m1 my mr m2 m4 m5 m6 m7 hc
  subst mr
  rcases m1 with m1 | ⟨host, m1⟩
  · exact va_runI (As := as.map (zt b)) (rest := st.map (zt b)) ⟨En.1, En.2.1, En.2.2.1, En.2.2.2.1, hts⟩ (hc l G b) ⟨callB_of n hts (zTB_good _ m5) rfl rfl rfl (hts _ m4) (hts _ m1) m6 (zRoom hd m7), my, hts _ m2⟩ ⟨zPc_blind, hpre⟩ rfl (by rw [List.length_map]; exact hn) hl.1 rfl (by rw [zt_sum]; show 2 * 0 + _ ≤ 8; omega) dg ⟨by show cells + kc' ≤ mc; omega, by show slots + ks' ≤ ms; omega⟩
  · exact va_runIN (As := as.map (zt b)) (rest := st.map (zt b)) ⟨En.1, En.2.1, En.2.2.1, En.2.2.2.1, hts⟩ (hc l G b) ⟨va_cnB n hts (zTB_good _ m5) rfl rfl rfl (hK.2.1 _ m1) (hts _ m4) m6 (zRoom hd m7), my, hts _ m2⟩ ⟨zPc_blind, hpre⟩ rfl (by rw [List.length_map]; exact hn) hl.1 rfl (by rw [zt_sum]; show 2 * 0 + _ ≤ 8; omega) dg ⟨by show cells + kc' ≤ mc; omega, by show slots + ks' ≤ ms; omega⟩
theorem zR.objI {x : Nat} (dg : decode q.2.1 pc = .ok (.invokespecial i, 3)) (hd : 1 ≤ d) (hm : Cond.methodLink q.1.cls i Lib.objectInit ∈ TB ∧ Cond.instanceMethod Lib.objectInit ∈ TB ∧ Cond.code Lib.objectInit ⟨#[0xb1]⟩ 1 none ∈ TB) (hx : 1 ≤ x) (hst : (st.map fun v => v.category).sum ≤ 8) (h : zR Y d kc ks q (pc + 3) ls st μ o) : zR Y d kc ks q pc ls (.ref x :: st) μ o := by
  intro l p e s m args below meth c G A b mc ms Q En hA hK hQ H locs cells slots Ls hW hl h1 h2
  have hts := En.2.2.2.2.1
  have hk := h l p e s m args below meth c G A b mc ms Q En hA hK hQ H locs cells slots Ls hW hl h1 h2
  rw [List.map_cons, zt_ref hx]
  exact W.objInit En.1 En.2.1 En.2.2.2.1 (hts _ hm.1) (hts _ hm.2.1) (hts _ hm.2.2) rfl (hl.1.trans En.2.2.1.symm) rfl dg hd (by rw [zt_sum]; show 2 * 0 + _ + 12 ≤ 41 * d + 32; omega) hk
end ZC
/-! the contract out of the walk -/
theorem zArgs (b : zB) : ∀ (av : List Value) (i : Nat), lv_args i (av.map (zt b)) = zLs b (lv_args i av)
  | [], _ => rfl
  | v :: av, i => by
    show (i, zt b v) :: lv_args (if (zt b v).category = 2 then i + 2 else i + 1) (av.map (zt b)) = (i, zt b v) :: zLs b (lv_args (if v.category = 2 then i + 2 else i + 1) av)
    rw [zt_cat, zArgs b av]
theorem zSl_len (b : zB) : ∀ av : List Value, (lg_sl (av.map (zt b))).length = (lg_sl av).length
  | [] => rfl
  | v :: av => by
    have ih := zSl_len b av
    simp only [lg_sl, List.map_cons, List.flatMap_cons, List.length_append, zt_cat] at ih ⊢
    rw [ih]
    congr 1
    by_cases hv : v.category = 2 <;> simp [hv]
def zRt (ret : Option FieldType) (r : Option Value) : Prop := match r with
  | none => ret = none
  | some (.int _) => ∃ ty, ret = some ty
  | some (.long _) => ret = some .long
  | _ => False
theorem zC.of {Y : zY} {d kc ks : Nat} {q : zMI} {av : List Value} {μ : zM} {o : Option Value × zM} (hp : plainFor q.1 = true) (hlen : (lg_sl av).length ≤ q.2.2.1) (hret : zRt q.2.2.2 o.1) (h : zR Y d kc ks q 0 (lv_args 0 av) [] μ o) : zC Y d kc ks q av μ o := by
  intro l G b
  refine va_MetF (cc := q.2.1) (maxL := q.2.2.1) (ret := q.2.2.2) hp rfl ?_
  intro p e s m args below meth c s₁ B hml hv
  obtain ⟨rfl, hsz, hP, hKK, hD0⟩ := hv
  have hts := atoms_spec (ws := Cond.code q.1 q.2.1 q.2.2.1 q.2.2.2 :: TB) B.pre
  have hlocks := B.notSynchronized
  have En : zEn p s m (av.map (zt b)).toArray meth c q := ⟨B.exec, B.bytes, hml, findClass_of_methodNamed B.named, fun w hw => hts w (List.mem_cons_of_mem _ hw), B.returns, hlocks, fun z => (name_of_methodNamed B.named B.method).1.trans z⟩
  have hent := lv_entry (av.map (zt b)) (n := q.2.2.1) (by rw [zSl_len]; exact hlen)
  rw [zArgs] at hent
  rw [lg_entry_eq]
  have hD : va_D (zA Y G b μ) (zW Y G b μ) := hD0.self
  have hA : ∀ x, s.heap.size ≤ x → zA Y G b μ x := fun x hx => Or.inr (by rw [← hsz]; exact hx)
  refine h l p e s m _ below meth c G (zA Y G b μ) b kc ks _ En hA hKK ?_ s.heap [] 0 0 _ ⟨hP, hD, va_S.rf, hsz⟩ hent (by omega) (by omega)
  intro pc' Ls' H locs i dg hi hnr hW
  have hq : ∀ t : State, t.heap = H → s.WarmedH t.vm → zQ Y G (zA Y G b μ) b o (av.map (zt b)).toArray s (.returned (o.1.map (zt b))) t := fun t ht _ => ⟨rfl, by rw [ht]; exact hW.1, hW.2.1, hW.2.2.1.F ht, by rw [ht]; exact hW.2.2.2⟩
  obtain ⟨r, μ2⟩ := o
  cases r with
  | none =>
    cases hi
    exact W.vret En.1 En.2.1 (En.2.2.2.2.2.1.trans hret) hq hW.2.2.1.2.2 dg hlocks
  | some v =>
    cases v with
    | int x =>
      cases hi
      obtain ⟨ty, hty⟩ := hret
      exact W.zret En.1 En.2.1 (En.2.2.2.2.2.1.trans hty) (hnr ty x hty rfl) hq hW.2.2.1.2.2 dg hlocks
    | long x =>
      cases hi
      exact W.lret En.1 En.2.1 (En.2.2.2.2.2.1.trans hret) hq hW.2.2.1.2.2 dg hlocks
    | _ => exact hret.elim

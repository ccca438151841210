/-! MY OWN: the rows in the order in which the program lays them. -/
theorem bnr_some {α β : Type} {x : Option α} {F : α → Option β} {w : β} (h : bnr x F = some w) : ∃ r, x = some r ∧ F r = some w := by
  cases x with
  | none => cases h
  | some r => exact ⟨r, rfl, h⟩
theorem bnc_some {α β : Type} {x : Option (α × zS)} {F : α → zS → Option β} {w : β} (h : bnc x F = some w) : ∃ (r : α) (σ : zS), x = some (r, σ) ∧ F r σ = some w := by
  cases x with
  | none => cases h
  | some r => exact ⟨r.1, r.2, rfl, h⟩
theorem zq_set (t t' : Bool × Bool × Bool) (p k v : Nat) (h : zRl t' = (zRl t).set p (((zRl t).getD p []).set k v)) (hp : p < (zRl t).length) (hk : k < ((zRl t).getD p []).length) : va_up (zR0 t) p (va_up (zR0 t p) k v) = zR0 t' := by
  funext a b
  unfold zR0
  rw [h]
  by_cases ha : a = p
  · subst ha
    have e1 : ((zRl t).set a (((zRl t).getD a []).set k v)).getD a [] = ((zRl t).getD a []).set k v := by
      rw [List.getD_eq_getElem?_getD, List.getElem?_set_self hp]; rfl
    rw [va_up_self, e1]
    by_cases hb : b = k
    · subst hb
      rw [va_up_self, List.getD_eq_getElem?_getD, List.getElem?_set_self hk]; rfl
    · rw [va_up_ne _ _ hb, List.getD_eq_getElem?_getD (l := List.set _ _ _), List.getElem?_set_ne (Ne.symm hb), ← List.getD_eq_getElem?_getD]
  · have e1 : ((zRl t).set p (((zRl t).getD p []).set k v)).getD a [] = (zRl t).getD a [] := by
      rw [List.getD_eq_getElem?_getD, List.getElem?_set_ne (Ne.symm ha), ← List.getD_eq_getElem?_getD]
    rw [va_up_ne _ _ ha, e1]
section KS
variable {sc : Nat × (Nat → Int32)} {d : Nat} {q : zMI} {pc : Nat} {ls : List (Nat × Value)} {st stk : List Value} {σ : zS} {μ : zM} {o : Option Value × zM} {γ : Type}
theorem kR.iload_n {k : Fin 4} {x : Int32} (dg : decode q.2.1 pc = .ok (.iload_n k, 1)) (j : Nat) (hj : ls[j]? = some ((k : Nat), .int x)) (h : zR (zY0 sc) d 0 0 q (pc + 1) ls (.int x :: st) μ o) : zR (zY0 sc) d 0 0 q pc ls st μ o := zR.iload_n j hj dg h
theorem kR.iload {i : Nat} {x : Int32} (dg : decode q.2.1 pc = .ok (.iload i, 2)) (j : Nat) (hj : ls[j]? = some (i, .int x)) (h : zR (zY0 sc) d 0 0 q (pc + 2) ls (.int x :: st) μ o) : zR (zY0 sc) d 0 0 q pc ls st μ o := zR.iload j hj dg h
theorem kR.lload_n {k : Fin 4} {x : Int64} (dg : decode q.2.1 pc = .ok (.lload_n k, 1)) (j : Nat) (hj : ls[j]? = some ((k : Nat), .long x)) (h : zR (zY0 sc) d 0 0 q (pc + 1) ls (.long x :: st) μ o) : zR (zY0 sc) d 0 0 q pc ls st μ o := zR.lload_n j hj dg h
theorem kR.lload {i : Nat} {x : Int64} (dg : decode q.2.1 pc = .ok (.lload i, 2)) (j : Nat) (hj : ls[j]? = some (i, .long x)) (h : zR (zY0 sc) d 0 0 q (pc + 2) ls (.long x :: st) μ o) : zR (zY0 sc) d 0 0 q pc ls st μ o := zR.lload j hj dg h
theorem kR.aload_n {k : Fin 4} {x : Nat} (dg : decode q.2.1 pc = .ok (.aload_n k, 1)) (j : Nat) (hj : ls[j]? = some ((k : Nat), .ref x)) (h : zR (zY0 sc) d 0 0 q (pc + 1) ls (.ref x :: st) μ o) : zR (zY0 sc) d 0 0 q pc ls st μ o := zR.aload_n j hj dg h
theorem kR.aload {i : Nat} {x : Nat} (dg : decode q.2.1 pc = .ok (.aload i, 2)) (j : Nat) (hj : ls[j]? = some (i, .ref x)) (h : zR (zY0 sc) d 0 0 q (pc + 2) ls (.ref x :: st) μ o) : zR (zY0 sc) d 0 0 q pc ls st μ o := zR.aload j hj dg h
theorem kR.getI {x ci k i : Nat} (dg : decode q.2.1 pc = .ok (.getfield i, 3)) (hf : zFl q.1.cls i ci k) (hc : zCF ci) (hx : zAt (zY0 sc) (zE σ) x ci) (hty : zTy ci k = .int ∨ zTy ci k = .boolean) (h : zR (zY0 sc) d 0 0 q (pc + 3) ls (.int (iG σ x k) :: st) (zE σ) o) : zR (zY0 sc) d 0 0 q pc ls (.ref x :: st) (zE σ) o :=
  zR.getf (v := .int (iG σ x k)) dg hf hc hx (fun b => by rcases hty with e | e <;> rw [e] <;> rfl) h
theorem kR.getL {x ci k i : Nat} (dg : decode q.2.1 pc = .ok (.getfield i, 3)) (hf : zFl q.1.cls i ci k) (hc : zCF ci) (hx : zAt (zY0 sc) (zE σ) x ci) (hty : zTy ci k = .long) (h : zR (zY0 sc) d 0 0 q (pc + 3) ls (.long (lG σ x k) :: st) (zE σ) o) : zR (zY0 sc) d 0 0 q pc ls (.ref x :: st) (zE σ) o :=
  zR.getf (v := .long (lG σ x k)) dg hf hc hx (fun b => by rw [hty]; rfl) h
theorem kR.getR {x ci k i v : Nat} (dg : decode q.2.1 pc = .ok (.getfield i, 3)) (hf : zFl q.1.cls i ci k) (hc : zCF ci) (hx : zAt (zY0 sc) (zE σ) x ci) (hty : (∃ n, zTy ci k = .object n) ∨ ∃ t, zTy ci k = .array t) (hv : zR0 σ.2.2 x k = v) (h : zR (zY0 sc) d 0 0 q (pc + 3) ls (.ref v :: st) (zE σ) o) : zR (zY0 sc) d 0 0 q pc ls (.ref x :: st) (zE σ) o := by
  subst hv
  exact zR.getf (v := .ref (zR0 σ.2.2 x k)) dg hf hc hx (fun b => by rcases hty with ⟨n, e⟩ | ⟨n, e⟩ <;> rw [e] <;> rfl) h
theorem kR.putQ {x ci k i v : Nat} {t : Bool × Bool × Bool} {F : zS → γ} {w : γ} (dg : decode q.2.1 pc = .ok (.putfield i, 3)) (hf : zFp q.1.cls i ci k) (hc : zCF ci) (hx : zAt (zY0 sc) (zE σ) x ci) (hty : (∃ n, zTy ci k = .object n) ∨ ∃ t, zTy ci k = .array t) (ht : va_up (zR0 σ.2.2) x (va_up (zR0 σ.2.2 x) k v) = zR0 t) (h : bnd (qS σ t) F = w) (kk : ∀ σ, F σ = w → zR (zY0 sc) d 0 0 q (pc + 3) ls st (zE σ) o) : zR (zY0 sc) d 0 0 q pc ls (.ref v :: .ref x :: st) (zE σ) o := by
  refine zR.putR dg (Or.inl hf) hc hx hty ?_
  have e : sR (zE σ) x k v = zE (qS σ t) := by
    unfold sR zE qS
    show (σ.1, σ.2.1, va_up (zR0 σ.2.2) x (va_up (zR0 σ.2.2 x) k v), _) = _
    rw [ht]
  rw [e]
  exact kk _ h
theorem kR.idiv {a y : Int32} {w : γ} {F : Option γ} (dg : decode q.2.1 pc = .ok (.idiv, 1)) (h : gd (¬ y = 0) F = some w) (kk : F = some w → zR (zY0 sc) d 0 0 q (pc + 1) ls (.int (a / y) :: st) μ o) : zR (zY0 sc) d 0 0 q pc ls (.int y :: .int a :: st) μ o := zR.idiv dg (kR.guard h).1 (kk (kR.guard h).2)
theorem kR.irem {a y : Int32} {w : γ} {F : Option γ} (dg : decode q.2.1 pc = .ok (.irem, 1)) (h : gd (¬ y = 0) F = some w) (kk : F = some w → zR (zY0 sc) d 0 0 q (pc + 1) ls (.int (a - a / y * y) :: st) μ o) : zR (zY0 sc) d 0 0 q pc ls (.int y :: .int a :: st) μ o := zR.irem dg (kR.guard h).1 (kk (kR.guard h).2)
theorem kR.ldiv {a y : Int64} {w : γ} {F : Option γ} (dg : decode q.2.1 pc = .ok (.ldiv, 1)) (h : gd (¬ y = 0) F = some w) (kk : F = some w → zR (zY0 sc) d 0 0 q (pc + 1) ls (.long (a / y) :: st) μ o) : zR (zY0 sc) d 0 0 q pc ls (.long y :: .long a :: st) μ o := zR.ldiv dg (kR.guard h).1 (kk (kR.guard h).2)
theorem kR.lrem {a y : Int64} {w : γ} {F : Option γ} (dg : decode q.2.1 pc = .ok (.lrem, 1)) (h : gd (¬ y = 0) F = some w) (kk : F = some w → zR (zY0 sc) d 0 0 q (pc + 1) ls (.long (a - a / y * y) :: st) μ o) : zR (zY0 sc) d 0 0 q pc ls (.long y :: .long a :: st) μ o := zR.lrem dg (kR.guard h).1 (kk (kR.guard h).2)
variable {d' i n : Nat} {q' : zMI} {μ1 : zM}
theorem kR.cVi {x ci : Nat} {v : Int32} (as : List Value) (dg : decode q.2.1 pc = .ok (.invokevirtual i, 3)) (hs : stk = as.reverse ++ .ref x :: st) (hd : d' + 1 ≤ d) (hm : zMv q.1.cls i q' n) (hx : zAt (zY0 sc) (zE σ) x ci) (hci : ci < 12) (hcn : (vwCl[ci]?).map (fun z => z.1) = some q'.1.cls) (hn : as.length = n) (hst : (st.map fun v => v.category).sum ≤ 8) (hc : zC (zY0 sc) d' 0 0 q' (.ref x :: as) (zE σ) ((some (.int v)), μ1)) (h : zR (zY0 sc) d 0 0 q (pc + 3) ls (.int v :: st) μ1 o) : zR (zY0 sc) d 0 0 q pc ls stk (zE σ) o := by
  subst hs
  exact zR.callV (kc' := 0) (kc := 0) (ks' := 0) (ks := 0) dg hd hm hx hci hcn hn hst hc h
theorem kR.cSi {v : Int32} (as : List Value) (dg : decode q.2.1 pc = .ok (.invokestatic i, 3)) (hs : stk = as.reverse ++ st) (hd : d' + 1 ≤ d) (hm : zMs q.1.cls i q' n ∨ zMt q.1.cls i q' n) (hn : as.length = n) (hst : (st.map fun v => v.category).sum ≤ 8) (hc : zC (zY0 sc) d' 0 0 q' as μ ((some (.int v)), μ1)) (h : zR (zY0 sc) d 0 0 q (pc + 3) ls (.int v :: st) μ1 o) : zR (zY0 sc) d 0 0 q pc ls stk μ o := by
  subst hs
  exact zR.callS (kc' := 0) (kc := 0) (ks' := 0) (ks := 0) dg hd hm hn hst hc h
theorem kR.cTi {v : Int32} (j : Nat) (as : List Value) (dg : decode q.2.1 pc = .ok (.invokevirtual i, 3)) (hs : stk = as.reverse ++ .ref (1000 + j) :: st) (hd : d' + 1 ≤ d) (hm : zMv q.1.cls i q' n) (hj : j < 2) (hcn : q'.1.cls = "java/lang/String") (hn : as.length = n) (hst : (st.map fun v => v.category).sum ≤ 8) (hc : zC (zY0 sc) d' 0 0 q' (.ref (1000 + j) :: as) μ ((some (.int v)), μ1)) (h : zR (zY0 sc) d 0 0 q (pc + 3) ls (.int v :: st) μ1 o) : zR (zY0 sc) d 0 0 q pc ls stk μ o := by
  subst hs
  exact zR.callT (kc' := 0) (kc := 0) (ks' := 0) (ks := 0) j dg hd hm hj hcn hn hst hc h
theorem kR.cVl {x ci : Nat} {v : Int64} (as : List Value) (dg : decode q.2.1 pc = .ok (.invokevirtual i, 3)) (hs : stk = as.reverse ++ .ref x :: st) (hd : d' + 1 ≤ d) (hm : zMv q.1.cls i q' n) (hx : zAt (zY0 sc) (zE σ) x ci) (hci : ci < 12) (hcn : (vwCl[ci]?).map (fun z => z.1) = some q'.1.cls) (hn : as.length = n) (hst : (st.map fun v => v.category).sum ≤ 8) (hc : zC (zY0 sc) d' 0 0 q' (.ref x :: as) (zE σ) ((some (.long v)), μ1)) (h : zR (zY0 sc) d 0 0 q (pc + 3) ls (.long v :: st) μ1 o) : zR (zY0 sc) d 0 0 q pc ls stk (zE σ) o := by
  subst hs
  exact zR.callV (kc' := 0) (kc := 0) (ks' := 0) (ks := 0) dg hd hm hx hci hcn hn hst hc h
theorem kR.cSl {v : Int64} (as : List Value) (dg : decode q.2.1 pc = .ok (.invokestatic i, 3)) (hs : stk = as.reverse ++ st) (hd : d' + 1 ≤ d) (hm : zMs q.1.cls i q' n ∨ zMt q.1.cls i q' n) (hn : as.length = n) (hst : (st.map fun v => v.category).sum ≤ 8) (hc : zC (zY0 sc) d' 0 0 q' as μ ((some (.long v)), μ1)) (h : zR (zY0 sc) d 0 0 q (pc + 3) ls (.long v :: st) μ1 o) : zR (zY0 sc) d 0 0 q pc ls stk μ o := by
  subst hs
  exact zR.callS (kc' := 0) (kc := 0) (ks' := 0) (ks := 0) dg hd hm hn hst hc h
theorem kR.cTl {v : Int64} (j : Nat) (as : List Value) (dg : decode q.2.1 pc = .ok (.invokevirtual i, 3)) (hs : stk = as.reverse ++ .ref (1000 + j) :: st) (hd : d' + 1 ≤ d) (hm : zMv q.1.cls i q' n) (hj : j < 2) (hcn : q'.1.cls = "java/lang/String") (hn : as.length = n) (hst : (st.map fun v => v.category).sum ≤ 8) (hc : zC (zY0 sc) d' 0 0 q' (.ref (1000 + j) :: as) μ ((some (.long v)), μ1)) (h : zR (zY0 sc) d 0 0 q (pc + 3) ls (.long v :: st) μ1 o) : zR (zY0 sc) d 0 0 q pc ls stk μ o := by
  subst hs
  exact zR.callT (kc' := 0) (kc := 0) (ks' := 0) (ks := 0) j dg hd hm hj hcn hn hst hc h
theorem kR.cVv {x ci : Nat} (as : List Value) (dg : decode q.2.1 pc = .ok (.invokevirtual i, 3)) (hs : stk = as.reverse ++ .ref x :: st) (hd : d' + 1 ≤ d) (hm : zMv q.1.cls i q' n) (hx : zAt (zY0 sc) (zE σ) x ci) (hci : ci < 12) (hcn : (vwCl[ci]?).map (fun z => z.1) = some q'.1.cls) (hn : as.length = n) (hst : (st.map fun v => v.category).sum ≤ 8) (hc : zC (zY0 sc) d' 0 0 q' (.ref x :: as) (zE σ) (none, μ1)) (h : zR (zY0 sc) d 0 0 q (pc + 3) ls st μ1 o) : zR (zY0 sc) d 0 0 q pc ls stk (zE σ) o := by
  subst hs
  exact zR.callV (kc' := 0) (kc := 0) (ks' := 0) (ks := 0) dg hd hm hx hci hcn hn hst hc h
theorem kR.cSv (as : List Value) (dg : decode q.2.1 pc = .ok (.invokestatic i, 3)) (hs : stk = as.reverse ++ st) (hd : d' + 1 ≤ d) (hm : zMs q.1.cls i q' n ∨ zMt q.1.cls i q' n) (hn : as.length = n) (hst : (st.map fun v => v.category).sum ≤ 8) (hc : zC (zY0 sc) d' 0 0 q' as μ (none, μ1)) (h : zR (zY0 sc) d 0 0 q (pc + 3) ls st μ1 o) : zR (zY0 sc) d 0 0 q pc ls stk μ o := by
  subst hs
  exact zR.callS (kc' := 0) (kc := 0) (ks' := 0) (ks := 0) dg hd hm hn hst hc h
theorem kR.cTv (j : Nat) (as : List Value) (dg : decode q.2.1 pc = .ok (.invokevirtual i, 3)) (hs : stk = as.reverse ++ .ref (1000 + j) :: st) (hd : d' + 1 ≤ d) (hm : zMv q.1.cls i q' n) (hj : j < 2) (hcn : q'.1.cls = "java/lang/String") (hn : as.length = n) (hst : (st.map fun v => v.category).sum ≤ 8) (hc : zC (zY0 sc) d' 0 0 q' (.ref (1000 + j) :: as) μ (none, μ1)) (h : zR (zY0 sc) d 0 0 q (pc + 3) ls st μ1 o) : zR (zY0 sc) d 0 0 q pc ls stk μ o := by
  subst hs
  exact zR.callT (kc' := 0) (kc := 0) (ks' := 0) (ks := 0) j dg hd hm hj hcn hn hst hc h
end KS
theorem tb1 (i : Nat) {w : Cond} (h0 : tables_1_1[i]? = some w) (g : goodWord w = true) : w ∈ TB := by
  have h := List.mem_of_getElem? h0
  exact tb_in (List.mem_append_right _ (show w ∈ tables_1 from List.mem_append_left _ h)) g
theorem tb2 (i : Nat) {w : Cond} (h0 : tables_1_2[i]? = some w) (g : goodWord w = true) : w ∈ TB := by
  have h := List.mem_of_getElem? h0
  exact tb_in (List.mem_append_right _ (show w ∈ tables_1 from List.mem_append_right _ (List.mem_append_left _ h))) g
theorem tb3 (i : Nat) {w : Cond} (h0 : tables_1_3[i]? = some w) (g : goodWord w = true) : w ∈ TB := by
  have h := List.mem_of_getElem? h0
  exact tb_in (List.mem_append_right _ (show w ∈ tables_1 from List.mem_append_right _ (List.mem_append_right _ (List.mem_append_left _ h)))) g
theorem tb4 (i : Nat) {w : Cond} (h0 : tables_1_4[i]? = some w) (g : goodWord w = true) : w ∈ TB := by
  have h := List.mem_of_getElem? h0
  exact tb_in (List.mem_append_right _ (show w ∈ tables_1 from List.mem_append_right _ (List.mem_append_right _ (List.mem_append_right _ (List.mem_append_left _ h))))) g
theorem tb5 (i : Nat) {w : Cond} (h0 : tables_1_5[i]? = some w) (g : goodWord w = true) : w ∈ TB := by
  have h := List.mem_of_getElem? h0
  exact tb_in (List.mem_append_right _ (show w ∈ tables_1 from List.mem_append_right _ (List.mem_append_right _ (List.mem_append_right _ (List.mem_append_right _ (List.mem_append_left _ h)))))) g
theorem tb6 (i : Nat) {w : Cond} (h0 : tables_1_6[i]? = some w) (g : goodWord w = true) : w ∈ TB := by
  have h := List.mem_of_getElem? h0
  exact tb_in (List.mem_append_right _ (show w ∈ tables_1 from List.mem_append_right _ (List.mem_append_right _ (List.mem_append_right _ (List.mem_append_right _ (List.mem_append_right _ (List.mem_append_left _ h))))))) g
theorem tb7 (i : Nat) {w : Cond} (h0 : tables_1_7[i]? = some w) (g : goodWord w = true) : w ∈ TB := by
  have h := List.mem_of_getElem? h0
  exact tb_in (List.mem_append_right _ (show w ∈ tables_1 from List.mem_append_right _ (List.mem_append_right _ (List.mem_append_right _ (List.mem_append_right _ (List.mem_append_right _ (List.mem_append_right _ (List.mem_append_left _ h)))))))) g
theorem tb8 (i : Nat) {w : Cond} (h0 : tables_1_8[i]? = some w) (g : goodWord w = true) : w ∈ TB := by
  have h := List.mem_of_getElem? h0
  exact tb_in (List.mem_append_right _ (show w ∈ tables_1 from List.mem_append_right _ (List.mem_append_right _ (List.mem_append_right _ (List.mem_append_right _ (List.mem_append_right _ (List.mem_append_right _ (List.mem_append_right _ (List.mem_append_left _ h))))))))) g
theorem tb9 (i : Nat) {w : Cond} (h0 : tables_1_9[i]? = some w) (g : goodWord w = true) : w ∈ TB := by
  have h := List.mem_of_getElem? h0
  exact tb_in (List.mem_append_right _ (show w ∈ tables_1 from List.mem_append_right _ (List.mem_append_right _ (List.mem_append_right _ (List.mem_append_right _ (List.mem_append_right _ (List.mem_append_right _ (List.mem_append_right _ (List.mem_append_right _ (h)))))))))) g
theorem zr0_5 (t : Bool × Bool × Bool) (β : Bool) : zR0 t (rp β + 0) 5 = rp β + 1 := by cases β <;> rfl
theorem zr0_6 (t : Bool × Bool × Bool) (β : Bool) : zR0 t (rp β + 0) 6 = rp β + 2 := by cases β <;> rfl
theorem zr0_7 (t : Bool × Bool × Bool) (β : Bool) : zR0 t (rp β + 0) 7 = rp β + 3 := by cases β <;> rfl
theorem zr0_8 (t : Bool × Bool × Bool) (β : Bool) : zR0 t (rp β + 0) 8 = rp β + 4 := by cases β <;> rfl
theorem zr0_9 (t : Bool × Bool × Bool) (β : Bool) : zR0 t (rp β + 0) 9 = rp β + 5 := by cases β <;> rfl
theorem zr0_10 (t : Bool × Bool × Bool) (β : Bool) : zR0 t (rp β + 0) 10 = rp β + 6 := by cases β <;> rfl
theorem zr0_11 (t : Bool × Bool × Bool) (β : Bool) : zR0 t (rp β + 0) 11 = rp β + 7 := by cases β <;> rfl
theorem zr0_12 (t : Bool × Bool × Bool) (β : Bool) : zR0 t (rp β + 0) 12 = rp β + 8 := by cases β <;> rfl
theorem zr0_13 (t : Bool × Bool × Bool) (β : Bool) : zR0 t (rp β + 0) 13 = rp β + 9 := by cases β <;> rfl
theorem zr0_14 (t : Bool × Bool × Bool) (β : Bool) : zR0 t (rp β + 0) 14 = rp β + 10 := by cases β <;> rfl
theorem zr0_15 (t : Bool × Bool × Bool) (β : Bool) : zR0 t (rp β + 0) 15 = rp β + 11 := by cases β <;> rfl
theorem zr11_0 (t : Bool × Bool × Bool) (β : Bool) : zR0 t (rp β + 11) 0 = rp β + 12 := by cases β <;> rfl
theorem zr11_1 (t : Bool × Bool × Bool) (β : Bool) : zR0 t (rp β + 11) 1 = rp β + 13 := by cases β <;> rfl
theorem zr11_4 (t : Bool × Bool × Bool) (β : Bool) : zR0 t (rp β + 11) 4 = rp β + 14 := by cases β <;> rfl
theorem zr11_5 (t : Bool × Bool × Bool) (β : Bool) : zR0 t (rp β + 11) 5 = rp β + 15 := by cases β <;> rfl
def aT {β : Type} (i : Nat) (j : Int32) (F : Int32 → Option β) : Option β := if ixb j (zSl.getD i 0) = true then F ((zSb.getD i []).getD j.toNatClampNeg 0) else none
theorem kR.strB {sc : Nat × (Nat → Int32)} {d : Nat} {q : zMI} {pc : Nat} {ls : List (Nat × Value)} {st : List Value} {μ : zM} {o : Option Value × zM} {γ : Type} {w : γ} (i : Nat) {j : Int32} {F : Int32 → Option γ} (dg : decode q.2.1 pc = .ok (.baload, 1)) (hi : i < 2) (h : aT i j F = some w) (kk : ∀ v, F v = some w → zR (zY0 sc) d 0 0 q (pc + 1) ls (.int v :: st) μ o) : zR (zY0 sc) d 0 0 q pc ls (.int j :: .ref (1010 + i) :: st) μ o := by
  unfold aT at h
  split at h
  · exact zR.strB i dg hi (ixb_in (by assumption)) (kk _ h)
  · cases h
def zD : Nat := 120
-- fields' links
theorem flX10_12 : zFl RX10 12 10 0 := ⟨RX10, TX10, rfl, tb2 164 rfl rfl, by decide⟩
theorem ffX10_12 : zFf RX10 12 10 0 := ⟨RX10, TX10, rfl, tb2 164 rfl rfl, by decide, rfl, rfl⟩
theorem flX10_19 : zFl RX10 19 10 1 := ⟨RX10, TX10, rfl, tb2 165 rfl rfl, by decide⟩
theorem ffX10_19 : zFf RX10 19 10 1 := ⟨RX10, TX10, rfl, tb2 165 rfl rfl, by decide, rfl, rfl⟩
theorem flX10_26 : zFl RX10 26 10 2 := ⟨RX10, TX10, rfl, tb2 166 rfl rfl, by decide⟩
theorem ffX10_26 : zFf RX10 26 10 2 := ⟨RX10, TX10, rfl, tb2 166 rfl rfl, by decide, rfl, rfl⟩
theorem flX10_38 : zFl RX10 38 10 3 := ⟨RX10, TX10, rfl, tb2 167 rfl rfl, by decide⟩
theorem ffX10_38 : zFf RX10 38 10 3 := ⟨RX10, TX10, rfl, tb2 167 rfl rfl, by decide, rfl, rfl⟩
theorem flX10_47 : zFl RX10 47 10 4 := ⟨RX10, TX10, rfl, tb2 168 rfl rfl, by decide⟩
theorem ffX10_47 : zFf RX10 47 10 4 := ⟨RX10, TX10, rfl, tb2 168 rfl rfl, by decide, rfl, rfl⟩
theorem flX10_54 : zFl RX10 54 10 5 := ⟨RX10, TX10, rfl, tb2 169 rfl rfl, by decide⟩
theorem ffX10_54 : zFf RX10 54 10 5 := ⟨RX10, TX10, rfl, tb2 169 rfl rfl, by decide, rfl, rfl⟩
theorem flX10_61 : zFl RX10 61 10 6 := ⟨RX10, TX10, rfl, tb2 170 rfl rfl, by decide⟩
theorem ffX10_61 : zFf RX10 61 10 6 := ⟨RX10, TX10, rfl, tb2 170 rfl rfl, by decide, rfl, rfl⟩
theorem flX10_65 : zFl RX10 65 10 7 := ⟨RX10, TX10, rfl, tb2 171 rfl rfl, by decide⟩
theorem ffX10_65 : zFf RX10 65 10 7 := ⟨RX10, TX10, rfl, tb2 171 rfl rfl, by decide, rfl, rfl⟩
theorem flX10_69 : zFl RX10 69 10 8 := ⟨RX10, TX10, rfl, tb2 172 rfl rfl, by decide⟩
theorem fpX10_69 : zFp RX10 69 10 8 := ⟨RX10, TX10, rfl, tb2 172 rfl rfl, by decide, rfl⟩
theorem flX10_78 : zFl RX10 78 10 9 := ⟨RX10, TX10, rfl, tb2 173 rfl rfl, by decide⟩
theorem ffX10_78 : zFf RX10 78 10 9 := ⟨RX10, TX10, rfl, tb2 173 rfl rfl, by decide, rfl, rfl⟩
theorem flX10_82 : zFl RX10 82 10 10 := ⟨RX10, TX10, rfl, tb2 174 rfl rfl, by decide⟩
theorem fpX10_82 : zFp RX10 82 10 10 := ⟨RX10, TX10, rfl, tb2 174 rfl rfl, by decide, rfl⟩
theorem flX10_86 : zFl RX10 86 9 1 := ⟨RX9, TX9, rfl, tb1 39 rfl rfl, by decide⟩
theorem fpX10_86 : zFp RX10 86 9 1 := ⟨RX9, TX9, rfl, tb1 39 rfl rfl, by decide, rfl⟩
theorem flX10_108 : zFl RX10 108 5 9 := ⟨RX5, TX5, rfl, tb2 138 rfl rfl, by decide⟩
theorem fpX10_108 : zFp RX10 108 5 9 := ⟨RX5, TX5, rfl, tb2 138 rfl rfl, by decide, rfl⟩
theorem flX10_111 : zFl RX10 111 4 0 := ⟨RX4, TX4, rfl, tb1 206 rfl rfl, by decide⟩
theorem fpX10_111 : zFp RX10 111 4 0 := ⟨RX4, TX4, rfl, tb1 206 rfl rfl, by decide, rfl⟩
theorem flX10_115 : zFl RX10 115 2 2 := ⟨RX2, TX2, rfl, tb1 69 rfl rfl, by decide⟩
theorem fpX10_115 : zFp RX10 115 2 2 := ⟨RX2, TX2, rfl, tb1 69 rfl rfl, by decide, rfl⟩
theorem flX10_118 : zFl RX10 118 1 3 := ⟨RX1, TX1, rfl, tb2 45 rfl rfl, by decide⟩
theorem fpX10_118 : zFp RX10 118 1 3 := ⟨RX1, TX1, rfl, tb2 45 rfl rfl, by decide, rfl⟩
theorem flX10_122 : zFl RX10 122 6 0 := ⟨RX6, TX6, rfl, tb1 114 rfl rfl, by decide⟩
theorem fpX10_122 : zFp RX10 122 6 0 := ⟨RX6, TX6, rfl, tb1 114 rfl rfl, by decide, rfl⟩
theorem flX10_125 : zFl RX10 125 5 10 := ⟨RX5, TX5, rfl, tb2 140 rfl rfl, by decide⟩
theorem fpX10_125 : zFp RX10 125 5 10 := ⟨RX5, TX5, rfl, tb2 140 rfl rfl, by decide, rfl⟩
theorem flX10_128 : zFl RX10 128 6 1 := ⟨RX6, TX6, rfl, tb1 119 rfl rfl, by decide⟩
theorem fpX10_128 : zFp RX10 128 6 1 := ⟨RX6, TX6, rfl, tb1 119 rfl rfl, by decide, rfl⟩
theorem flX10_131 : zFl RX10 131 6 2 := ⟨RX6, TX6, rfl, tb1 124 rfl rfl, by decide⟩
theorem fpX10_131 : zFp RX10 131 6 2 := ⟨RX6, TX6, rfl, tb1 124 rfl rfl, by decide, rfl⟩
theorem flX10_134 : zFl RX10 134 6 3 := ⟨RX6, TX6, rfl, tb1 128 rfl rfl, by decide⟩
theorem fpX10_134 : zFp RX10 134 6 3 := ⟨RX6, TX6, rfl, tb1 128 rfl rfl, by decide, rfl⟩
theorem flX10_137 : zFl RX10 137 6 4 := ⟨RX6, TX6, rfl, tb1 132 rfl rfl, by decide⟩
theorem fpX10_137 : zFp RX10 137 6 4 := ⟨RX6, TX6, rfl, tb1 132 rfl rfl, by decide, rfl⟩
theorem flX10_151 : zFl RX10 151 6 5 := ⟨RX6, TX6, rfl, tb1 136 rfl rfl, by decide⟩
theorem flX10_165 : zFl RX10 165 6 10 := ⟨RX6, TX6, rfl, tb1 149 rfl rfl, by decide⟩
theorem flX10_177 : zFl RX10 177 6 6 := ⟨RX6, TX6, rfl, tb1 139 rfl rfl, by decide⟩
theorem flX10_189 : zFl RX10 189 6 11 := ⟨RX6, TX6, rfl, tb1 153 rfl rfl, by decide⟩
theorem flX10_192 : zFl RX10 192 6 12 := ⟨RX6, TX6, rfl, tb1 156 rfl rfl, by decide⟩
theorem flX10_232 : zFl RX10 232 0 7 := ⟨RX0, TX0, rfl, tb1 236 rfl rfl, by decide⟩
theorem fpX10_232 : zFp RX10 232 0 7 := ⟨RX0, TX0, rfl, tb1 236 rfl rfl, by decide, rfl⟩
theorem flX10_235 : zFl RX10 235 0 8 := ⟨RX0, TX0, rfl, tb1 238 rfl rfl, by decide⟩
theorem fpX10_235 : zFp RX10 235 0 8 := ⟨RX0, TX0, rfl, tb1 238 rfl rfl, by decide, rfl⟩
theorem flX10_239 : zFl RX10 239 0 9 := ⟨RX0, TX0, rfl, tb2 0 rfl rfl, by decide⟩
theorem fpX10_239 : zFp RX10 239 0 9 := ⟨RX0, TX0, rfl, tb2 0 rfl rfl, by decide, rfl⟩
theorem flX10_245 : zFl RX10 245 0 12 := ⟨RX0, TX0, rfl, tb2 5 rfl rfl, by decide⟩
theorem fpX10_245 : zFp RX10 245 0 12 := ⟨RX0, TX0, rfl, tb2 5 rfl rfl, by decide, rfl⟩
theorem flX10_248 : zFl RX10 248 0 11 := ⟨RX0, TX0, rfl, tb2 3 rfl rfl, by decide⟩
theorem flX10_274 : zFl RX10 274 1 2 := ⟨RX1, TX1, rfl, tb2 43 rfl rfl, by decide⟩
theorem fpX10_274 : zFp RX10 274 1 2 := ⟨RX1, TX1, rfl, tb2 43 rfl rfl, by decide, rfl⟩
theorem flX10_314 : zFl RX10 314 3 1 := ⟨RX3, TX3, rfl, tb2 64 rfl rfl, by decide⟩
theorem fpX10_314 : zFp RX10 314 3 1 := ⟨RX3, TX3, rfl, tb2 64 rfl rfl, by decide, rfl⟩
theorem flX10_315 : zFl RX10 315 3 0 := ⟨RX3, TX3, rfl, tb2 62 rfl rfl, by decide⟩
theorem flX10_335 : zFl RX10 335 4 2 := ⟨RX4, TX4, rfl, tb1 211 rfl rfl, by decide⟩
theorem flX0_9 : zFl RX0 9 0 1 := ⟨RX0, TX0, rfl, tb1 229 rfl rfl, by decide⟩
theorem ffX0_9 : zFf RX0 9 0 1 := ⟨RX0, TX0, rfl, tb1 229 rfl rfl, by decide, rfl, rfl⟩
theorem flX0_15 : zFl RX0 15 0 2 := ⟨RX0, TX0, rfl, tb1 230 rfl rfl, by decide⟩
theorem ffX0_15 : zFf RX0 15 0 2 := ⟨RX0, TX0, rfl, tb1 230 rfl rfl, by decide, rfl, rfl⟩
theorem flX0_18 : zFl RX0 18 0 3 := ⟨RX0, TX0, rfl, tb1 231 rfl rfl, by decide⟩
theorem ffX0_18 : zFf RX0 18 0 3 := ⟨RX0, TX0, rfl, tb1 231 rfl rfl, by decide, rfl, rfl⟩
theorem flX0_21 : zFl RX0 21 0 4 := ⟨RX0, TX0, rfl, tb1 232 rfl rfl, by decide⟩
theorem fpX0_21 : zFp RX0 21 0 4 := ⟨RX0, TX0, rfl, tb1 232 rfl rfl, by decide, rfl⟩
theorem flX0_25 : zFl RX0 25 0 5 := ⟨RX0, TX0, rfl, tb1 233 rfl rfl, by decide⟩
theorem fpX0_25 : zFp RX0 25 0 5 := ⟨RX0, TX0, rfl, tb1 233 rfl rfl, by decide, rfl⟩
theorem flX0_28 : zFl RX0 28 0 6 := ⟨RX0, TX0, rfl, tb1 234 rfl rfl, by decide⟩
theorem fpX0_28 : zFp RX0 28 0 6 := ⟨RX0, TX0, rfl, tb1 234 rfl rfl, by decide, rfl⟩
theorem flX0_31 : zFl RX0 31 0 7 := ⟨RX0, TX0, rfl, tb1 235 rfl rfl, by decide⟩
theorem fpX0_31 : zFp RX0 31 0 7 := ⟨RX0, TX0, rfl, tb1 235 rfl rfl, by decide, rfl⟩
theorem flX0_34 : zFl RX0 34 0 8 := ⟨RX0, TX0, rfl, tb1 237 rfl rfl, by decide⟩
theorem fpX0_34 : zFp RX0 34 0 8 := ⟨RX0, TX0, rfl, tb1 237 rfl rfl, by decide, rfl⟩
theorem flX0_38 : zFl RX0 38 0 9 := ⟨RX0, TX0, rfl, tb1 239 rfl rfl, by decide⟩
theorem fpX0_38 : zFp RX0 38 0 9 := ⟨RX0, TX0, rfl, tb1 239 rfl rfl, by decide, rfl⟩
theorem flX0_41 : zFl RX0 41 0 10 := ⟨RX0, TX0, rfl, tb2 1 rfl rfl, by decide⟩
theorem fpX0_41 : zFp RX0 41 0 10 := ⟨RX0, TX0, rfl, tb2 1 rfl rfl, by decide, rfl⟩
theorem flX0_44 : zFl RX0 44 0 11 := ⟨RX0, TX0, rfl, tb2 2 rfl rfl, by decide⟩
theorem ffX0_44 : zFf RX0 44 0 11 := ⟨RX0, TX0, rfl, tb2 2 rfl rfl, by decide, rfl, rfl⟩
theorem flX0_48 : zFl RX0 48 0 12 := ⟨RX0, TX0, rfl, tb2 4 rfl rfl, by decide⟩
theorem fpX0_48 : zFp RX0 48 0 12 := ⟨RX0, TX0, rfl, tb2 4 rfl rfl, by decide, rfl⟩
theorem flX0_51 : zFl RX0 51 0 0 := ⟨RX0, TX0, rfl, tb1 228 rfl rfl, by decide⟩
theorem ffX0_51 : zFf RX0 51 0 0 := ⟨RX0, TX0, rfl, tb1 228 rfl rfl, by decide, rfl, rfl⟩
theorem flX0_63 : zFl RX0 63 4 0 := ⟨RX4, TX4, rfl, tb1 205 rfl rfl, by decide⟩
theorem fpX0_63 : zFp RX0 63 4 0 := ⟨RX4, TX4, rfl, tb1 205 rfl rfl, by decide, rfl⟩
theorem flX0_94 : zFl RX0 94 6 1 := ⟨RX6, TX6, rfl, tb1 118 rfl rfl, by decide⟩
theorem fpX0_94 : zFp RX0 94 6 1 := ⟨RX6, TX6, rfl, tb1 118 rfl rfl, by decide, rfl⟩
theorem flX0_130 : zFl RX0 130 6 2 := ⟨RX6, TX6, rfl, tb1 125 rfl rfl, by decide⟩
theorem fpX0_130 : zFp RX0 130 6 2 := ⟨RX6, TX6, rfl, tb1 125 rfl rfl, by decide, rfl⟩
theorem flX0_133 : zFl RX0 133 4 1 := ⟨RX4, TX4, rfl, tb1 208 rfl rfl, by decide⟩
theorem flX0_155 : zFl RX0 155 4 2 := ⟨RX4, TX4, rfl, tb1 210 rfl rfl, by decide⟩
theorem flX0_164 : zFl RX0 164 6 3 := ⟨RX6, TX6, rfl, tb1 129 rfl rfl, by decide⟩
theorem fpX0_164 : zFp RX0 164 6 3 := ⟨RX6, TX6, rfl, tb1 129 rfl rfl, by decide, rfl⟩
theorem flX0_167 : zFl RX0 167 6 4 := ⟨RX6, TX6, rfl, tb1 133 rfl rfl, by decide⟩
theorem fpX0_167 : zFp RX0 167 6 4 := ⟨RX6, TX6, rfl, tb1 133 rfl rfl, by decide, rfl⟩
theorem flX1_9 : zFl RX1 9 1 0 := ⟨RX1, TX1, rfl, tb2 40 rfl rfl, by decide⟩
theorem ffX1_9 : zFf RX1 9 1 0 := ⟨RX1, TX1, rfl, tb2 40 rfl rfl, by decide, rfl, rfl⟩
theorem flX1_15 : zFl RX1 15 1 1 := ⟨RX1, TX1, rfl, tb2 41 rfl rfl, by decide⟩
theorem ffX1_15 : zFf RX1 15 1 1 := ⟨RX1, TX1, rfl, tb2 41 rfl rfl, by decide, rfl, rfl⟩
theorem flX1_18 : zFl RX1 18 1 2 := ⟨RX1, TX1, rfl, tb2 42 rfl rfl, by decide⟩
theorem fpX1_18 : zFp RX1 18 1 2 := ⟨RX1, TX1, rfl, tb2 42 rfl rfl, by decide, rfl⟩
theorem flX1_22 : zFl RX1 22 1 3 := ⟨RX1, TX1, rfl, tb2 44 rfl rfl, by decide⟩
theorem fpX1_22 : zFp RX1 22 1 3 := ⟨RX1, TX1, rfl, tb2 44 rfl rfl, by decide, rfl⟩
theorem flX1_25 : zFl RX1 25 9 1 := ⟨RX9, TX9, rfl, tb1 38 rfl rfl, by decide⟩
theorem fpX1_25 : zFp RX1 25 9 1 := ⟨RX9, TX9, rfl, tb1 38 rfl rfl, by decide, rfl⟩
theorem flX2_11 : zFl RX2 11 2 0 := ⟨RX2, TX2, rfl, tb1 66 rfl rfl, by decide⟩
theorem ffX2_11 : zFf RX2 11 2 0 := ⟨RX2, TX2, rfl, tb1 66 rfl rfl, by decide, rfl, rfl⟩
theorem flX2_17 : zFl RX2 17 2 1 := ⟨RX2, TX2, rfl, tb1 67 rfl rfl, by decide⟩
theorem fpX2_17 : zFp RX2 17 2 1 := ⟨RX2, TX2, rfl, tb1 67 rfl rfl, by decide, rfl⟩
theorem flX2_21 : zFl RX2 21 2 2 := ⟨RX2, TX2, rfl, tb1 68 rfl rfl, by decide⟩
theorem fpX2_21 : zFp RX2 21 2 2 := ⟨RX2, TX2, rfl, tb1 68 rfl rfl, by decide, rfl⟩
theorem flX2_24 : zFl RX2 24 7 0 := ⟨RX7, TX7, rfl, tb1 55 rfl rfl, by decide⟩
theorem flX3_11 : zFl RX3 11 3 0 := ⟨RX3, TX3, rfl, tb2 61 rfl rfl, by decide⟩
theorem ffX3_11 : zFf RX3 11 3 0 := ⟨RX3, TX3, rfl, tb2 61 rfl rfl, by decide, rfl, rfl⟩
theorem flX3_15 : zFl RX3 15 3 1 := ⟨RX3, TX3, rfl, tb2 63 rfl rfl, by decide⟩
theorem fpX3_15 : zFp RX3 15 3 1 := ⟨RX3, TX3, rfl, tb2 63 rfl rfl, by decide, rfl⟩
theorem flX3_29 : zFl RX3 29 6 2 := ⟨RX6, TX6, rfl, tb1 122 rfl rfl, by decide⟩
theorem fpX3_29 : zFp RX3 29 6 2 := ⟨RX6, TX6, rfl, tb1 122 rfl rfl, by decide, rfl⟩
theorem flX3_45 : zFl RX3 45 6 1 := ⟨RX6, TX6, rfl, tb1 117 rfl rfl, by decide⟩
theorem fpX3_45 : zFp RX3 45 6 1 := ⟨RX6, TX6, rfl, tb1 117 rfl rfl, by decide, rfl⟩
theorem flX3_59 : zFl RX3 59 9 1 := ⟨RX9, TX9, rfl, tb1 40 rfl rfl, by decide⟩
theorem fpX3_59 : zFp RX3 59 9 1 := ⟨RX9, TX9, rfl, tb1 40 rfl rfl, by decide, rfl⟩
theorem flX4_9 : zFl RX4 9 4 2 := ⟨RX4, TX4, rfl, tb1 209 rfl rfl, by decide⟩
theorem ffX4_9 : zFf RX4 9 4 2 := ⟨RX4, TX4, rfl, tb1 209 rfl rfl, by decide, rfl, rfl⟩
theorem flX4_15 : zFl RX4 15 4 3 := ⟨RX4, TX4, rfl, tb1 212 rfl rfl, by decide⟩
theorem ffX4_15 : zFf RX4 15 4 3 := ⟨RX4, TX4, rfl, tb1 212 rfl rfl, by decide, rfl, rfl⟩
theorem flX4_18 : zFl RX4 18 4 1 := ⟨RX4, TX4, rfl, tb1 207 rfl rfl, by decide⟩
theorem ffX4_18 : zFf RX4 18 4 1 := ⟨RX4, TX4, rfl, tb1 207 rfl rfl, by decide, rfl, rfl⟩
theorem flX4_22 : zFl RX4 22 4 0 := ⟨RX4, TX4, rfl, tb1 204 rfl rfl, by decide⟩
theorem fpX4_22 : zFp RX4 22 4 0 := ⟨RX4, TX4, rfl, tb1 204 rfl rfl, by decide, rfl⟩
theorem flX4_44 : zFl RX4 44 6 2 := ⟨RX6, TX6, rfl, tb1 123 rfl rfl, by decide⟩
theorem fpX4_44 : zFp RX4 44 6 2 := ⟨RX6, TX6, rfl, tb1 123 rfl rfl, by decide, rfl⟩
theorem flX4_62 : zFl RX4 62 6 15 := ⟨RX6, TX6, rfl, tb1 165 rfl rfl, by decide⟩
theorem flX4_83 : zFl RX4 83 6 6 := ⟨RX6, TX6, rfl, tb1 140 rfl rfl, by decide⟩
theorem flX5_11 : zFl RX5 11 5 0 := ⟨RX5, TX5, rfl, tb2 128 rfl rfl, by decide⟩
theorem ffX5_11 : zFf RX5 11 5 0 := ⟨RX5, TX5, rfl, tb2 128 rfl rfl, by decide, rfl, rfl⟩
theorem flX5_15 : zFl RX5 15 5 3 := ⟨RX5, TX5, rfl, tb2 131 rfl rfl, by decide⟩
theorem fpX5_15 : zFp RX5 15 5 3 := ⟨RX5, TX5, rfl, tb2 131 rfl rfl, by decide, rfl⟩
theorem flX5_19 : zFl RX5 19 5 4 := ⟨RX5, TX5, rfl, tb2 132 rfl rfl, by decide⟩
theorem fpX5_19 : zFp RX5 19 5 4 := ⟨RX5, TX5, rfl, tb2 132 rfl rfl, by decide, rfl⟩
theorem flX5_22 : zFl RX5 22 5 5 := ⟨RX5, TX5, rfl, tb2 133 rfl rfl, by decide⟩
theorem fpX5_22 : zFp RX5 22 5 5 := ⟨RX5, TX5, rfl, tb2 133 rfl rfl, by decide, rfl⟩
theorem flX5_25 : zFl RX5 25 5 6 := ⟨RX5, TX5, rfl, tb2 134 rfl rfl, by decide⟩
theorem fpX5_25 : zFp RX5 25 5 6 := ⟨RX5, TX5, rfl, tb2 134 rfl rfl, by decide, rfl⟩
theorem flX5_28 : zFl RX5 28 5 7 := ⟨RX5, TX5, rfl, tb2 135 rfl rfl, by decide⟩
theorem fpX5_28 : zFp RX5 28 5 7 := ⟨RX5, TX5, rfl, tb2 135 rfl rfl, by decide, rfl⟩
theorem flX5_31 : zFl RX5 31 5 8 := ⟨RX5, TX5, rfl, tb2 136 rfl rfl, by decide⟩
theorem fpX5_31 : zFp RX5 31 5 8 := ⟨RX5, TX5, rfl, tb2 136 rfl rfl, by decide, rfl⟩
theorem flX5_34 : zFl RX5 34 5 9 := ⟨RX5, TX5, rfl, tb2 137 rfl rfl, by decide⟩
theorem fpX5_34 : zFp RX5 34 5 9 := ⟨RX5, TX5, rfl, tb2 137 rfl rfl, by decide, rfl⟩
theorem flX5_37 : zFl RX5 37 5 10 := ⟨RX5, TX5, rfl, tb2 139 rfl rfl, by decide⟩
theorem fpX5_37 : zFp RX5 37 5 10 := ⟨RX5, TX5, rfl, tb2 139 rfl rfl, by decide, rfl⟩
theorem flX5_40 : zFl RX5 40 5 1 := ⟨RX5, TX5, rfl, tb2 129 rfl rfl, by decide⟩
theorem ffX5_40 : zFf RX5 40 5 1 := ⟨RX5, TX5, rfl, tb2 129 rfl rfl, by decide, rfl, rfl⟩
theorem flX5_44 : zFl RX5 44 5 2 := ⟨RX5, TX5, rfl, tb2 130 rfl rfl, by decide⟩
theorem fpX5_44 : zFp RX5 44 5 2 := ⟨RX5, TX5, rfl, tb2 130 rfl rfl, by decide, rfl⟩
theorem flX5_80 : zFl RX5 80 9 1 := ⟨RX9, TX9, rfl, tb1 41 rfl rfl, by decide⟩
theorem fpX5_80 : zFp RX5 80 9 1 := ⟨RX9, TX9, rfl, tb1 41 rfl rfl, by decide, rfl⟩
theorem flX5_130 : zFl RX5 130 6 0 := ⟨RX6, TX6, rfl, tb1 115 rfl rfl, by decide⟩
theorem fpX5_130 : zFp RX5 130 6 0 := ⟨RX6, TX6, rfl, tb1 115 rfl rfl, by decide, rfl⟩
theorem flX5_154 : zFl RX5 154 6 3 := ⟨RX6, TX6, rfl, tb1 130 rfl rfl, by decide⟩
theorem fpX5_154 : zFp RX5 154 6 3 := ⟨RX6, TX6, rfl, tb1 130 rfl rfl, by decide, rfl⟩
theorem flX5_157 : zFl RX5 157 6 4 := ⟨RX6, TX6, rfl, tb1 134 rfl rfl, by decide⟩
theorem fpX5_157 : zFp RX5 157 6 4 := ⟨RX6, TX6, rfl, tb1 134 rfl rfl, by decide, rfl⟩
theorem flX5_160 : zFl RX5 160 6 1 := ⟨RX6, TX6, rfl, tb1 120 rfl rfl, by decide⟩
theorem fpX5_160 : zFp RX5 160 6 1 := ⟨RX6, TX6, rfl, tb1 120 rfl rfl, by decide, rfl⟩
theorem flX5_163 : zFl RX5 163 6 5 := ⟨RX6, TX6, rfl, tb1 137 rfl rfl, by decide⟩
theorem flX5_176 : zFl RX5 176 6 6 := ⟨RX6, TX6, rfl, tb1 141 rfl rfl, by decide⟩
theorem flX5_189 : zFl RX5 189 6 8 := ⟨RX6, TX6, rfl, tb1 145 rfl rfl, by decide⟩
theorem flX5_192 : zFl RX5 192 6 9 := ⟨RX6, TX6, rfl, tb1 147 rfl rfl, by decide⟩
theorem flX5_195 : zFl RX5 195 6 7 := ⟨RX6, TX6, rfl, tb1 143 rfl rfl, by decide⟩
theorem flX5_198 : zFl RX5 198 6 2 := ⟨RX6, TX6, rfl, tb1 126 rfl rfl, by decide⟩
theorem fpX5_198 : zFp RX5 198 6 2 := ⟨RX6, TX6, rfl, tb1 126 rfl rfl, by decide, rfl⟩
theorem flX5_201 : zFl RX5 201 6 10 := ⟨RX6, TX6, rfl, tb1 150 rfl rfl, by decide⟩
theorem flX5_204 : zFl RX5 204 6 11 := ⟨RX6, TX6, rfl, tb1 154 rfl rfl, by decide⟩
theorem flX5_207 : zFl RX5 207 6 12 := ⟨RX6, TX6, rfl, tb1 157 rfl rfl, by decide⟩
theorem flX5_219 : zFl RX5 219 6 14 := ⟨RX6, TX6, rfl, tb1 163 rfl rfl, by decide⟩
theorem flX5_225 : zFl RX5 225 6 13 := ⟨RX6, TX6, rfl, tb1 160 rfl rfl, by decide⟩
theorem flX5_228 : zFl RX5 228 6 15 := ⟨RX6, TX6, rfl, tb1 166 rfl rfl, by decide⟩
theorem flX5_235 : zFl RX5 235 8 4 := ⟨RX8, TX8, rfl, tb1 97 rfl rfl, by decide⟩
theorem flX5_238 : zFl RX5 238 8 3 := ⟨RX8, TX8, rfl, tb1 95 rfl rfl, by decide⟩
theorem fpX5_238 : zFp RX5 238 8 3 := ⟨RX8, TX8, rfl, tb1 95 rfl rfl, by decide, rfl⟩
theorem flX5_242 : zFl RX5 242 8 5 := ⟨RX8, TX8, rfl, tb1 99 rfl rfl, by decide⟩
theorem flX6_9 : zFl RX6 9 6 0 := ⟨RX6, TX6, rfl, tb1 113 rfl rfl, by decide⟩
theorem fpX6_9 : zFp RX6 9 6 0 := ⟨RX6, TX6, rfl, tb1 113 rfl rfl, by decide, rfl⟩
theorem flX6_15 : zFl RX6 15 6 1 := ⟨RX6, TX6, rfl, tb1 116 rfl rfl, by decide⟩
theorem fpX6_15 : zFp RX6 15 6 1 := ⟨RX6, TX6, rfl, tb1 116 rfl rfl, by decide, rfl⟩
theorem flX6_18 : zFl RX6 18 6 2 := ⟨RX6, TX6, rfl, tb1 121 rfl rfl, by decide⟩
theorem fpX6_18 : zFp RX6 18 6 2 := ⟨RX6, TX6, rfl, tb1 121 rfl rfl, by decide, rfl⟩
theorem flX6_21 : zFl RX6 21 6 3 := ⟨RX6, TX6, rfl, tb1 127 rfl rfl, by decide⟩
theorem fpX6_21 : zFp RX6 21 6 3 := ⟨RX6, TX6, rfl, tb1 127 rfl rfl, by decide, rfl⟩
theorem flX6_24 : zFl RX6 24 6 4 := ⟨RX6, TX6, rfl, tb1 131 rfl rfl, by decide⟩
theorem fpX6_24 : zFp RX6 24 6 4 := ⟨RX6, TX6, rfl, tb1 131 rfl rfl, by decide, rfl⟩
theorem flX6_27 : zFl RX6 27 6 5 := ⟨RX6, TX6, rfl, tb1 135 rfl rfl, by decide⟩
theorem ffX6_27 : zFf RX6 27 6 5 := ⟨RX6, TX6, rfl, tb1 135 rfl rfl, by decide, rfl, rfl⟩
theorem flX6_31 : zFl RX6 31 6 6 := ⟨RX6, TX6, rfl, tb1 138 rfl rfl, by decide⟩
theorem ffX6_31 : zFf RX6 31 6 6 := ⟨RX6, TX6, rfl, tb1 138 rfl rfl, by decide, rfl, rfl⟩
theorem flX6_34 : zFl RX6 34 6 7 := ⟨RX6, TX6, rfl, tb1 142 rfl rfl, by decide⟩
theorem ffX6_34 : zFf RX6 34 6 7 := ⟨RX6, TX6, rfl, tb1 142 rfl rfl, by decide, rfl, rfl⟩
theorem flX6_37 : zFl RX6 37 6 8 := ⟨RX6, TX6, rfl, tb1 144 rfl rfl, by decide⟩
theorem ffX6_37 : zFf RX6 37 6 8 := ⟨RX6, TX6, rfl, tb1 144 rfl rfl, by decide, rfl, rfl⟩
theorem flX6_40 : zFl RX6 40 6 9 := ⟨RX6, TX6, rfl, tb1 146 rfl rfl, by decide⟩
theorem ffX6_40 : zFf RX6 40 6 9 := ⟨RX6, TX6, rfl, tb1 146 rfl rfl, by decide, rfl, rfl⟩
theorem flX6_43 : zFl RX6 43 6 10 := ⟨RX6, TX6, rfl, tb1 148 rfl rfl, by decide⟩
theorem ffX6_43 : zFf RX6 43 6 10 := ⟨RX6, TX6, rfl, tb1 148 rfl rfl, by decide, rfl, rfl⟩
theorem flX6_46 : zFl RX6 46 6 11 := ⟨RX6, TX6, rfl, tb1 151 rfl rfl, by decide⟩
theorem ffX6_46 : zFf RX6 46 6 11 := ⟨RX6, TX6, rfl, tb1 151 rfl rfl, by decide, rfl, rfl⟩
theorem flX6_49 : zFl RX6 49 6 12 := ⟨RX6, TX6, rfl, tb1 155 rfl rfl, by decide⟩
theorem ffX6_49 : zFf RX6 49 6 12 := ⟨RX6, TX6, rfl, tb1 155 rfl rfl, by decide, rfl, rfl⟩
theorem flX6_52 : zFl RX6 52 6 13 := ⟨RX6, TX6, rfl, tb1 158 rfl rfl, by decide⟩
theorem ffX6_52 : zFf RX6 52 6 13 := ⟨RX6, TX6, rfl, tb1 158 rfl rfl, by decide, rfl, rfl⟩
theorem flX6_55 : zFl RX6 55 6 14 := ⟨RX6, TX6, rfl, tb1 161 rfl rfl, by decide⟩
theorem ffX6_55 : zFf RX6 55 6 14 := ⟨RX6, TX6, rfl, tb1 161 rfl rfl, by decide, rfl, rfl⟩
theorem flX6_61 : zFl RX6 61 6 15 := ⟨RX6, TX6, rfl, tb1 164 rfl rfl, by decide⟩
theorem ffX6_61 : zFf RX6 61 6 15 := ⟨RX6, TX6, rfl, tb1 164 rfl rfl, by decide, rfl, rfl⟩
theorem flX7_11 : zFl RX7 11 7 0 := ⟨RX7, TX7, rfl, tb1 54 rfl rfl, by decide⟩
theorem ffX7_11 : zFf RX7 11 7 0 := ⟨RX7, TX7, rfl, tb1 54 rfl rfl, by decide, rfl, rfl⟩
theorem flX7_15 : zFl RX7 15 6 11 := ⟨RX6, TX6, rfl, tb1 152 rfl rfl, by decide⟩
theorem flX7_20 : zFl RX7 20 6 13 := ⟨RX6, TX6, rfl, tb1 159 rfl rfl, by decide⟩
theorem flX7_23 : zFl RX7 23 6 14 := ⟨RX6, TX6, rfl, tb1 162 rfl rfl, by decide⟩
theorem flX8_9 : zFl RX8 9 8 0 := ⟨RX8, TX8, rfl, tb1 91 rfl rfl, by decide⟩
theorem ffX8_9 : zFf RX8 9 8 0 := ⟨RX8, TX8, rfl, tb1 91 rfl rfl, by decide, rfl, rfl⟩
theorem flX8_15 : zFl RX8 15 8 1 := ⟨RX8, TX8, rfl, tb1 92 rfl rfl, by decide⟩
theorem ffX8_15 : zFf RX8 15 8 1 := ⟨RX8, TX8, rfl, tb1 92 rfl rfl, by decide, rfl, rfl⟩
theorem flX8_18 : zFl RX8 18 8 2 := ⟨RX8, TX8, rfl, tb1 93 rfl rfl, by decide⟩
theorem fpX8_18 : zFp RX8 18 8 2 := ⟨RX8, TX8, rfl, tb1 93 rfl rfl, by decide, rfl⟩
theorem flX8_22 : zFl RX8 22 8 3 := ⟨RX8, TX8, rfl, tb1 94 rfl rfl, by decide⟩
theorem fpX8_22 : zFp RX8 22 8 3 := ⟨RX8, TX8, rfl, tb1 94 rfl rfl, by decide, rfl⟩
theorem flX8_25 : zFl RX8 25 8 4 := ⟨RX8, TX8, rfl, tb1 96 rfl rfl, by decide⟩
theorem ffX8_25 : zFf RX8 25 8 4 := ⟨RX8, TX8, rfl, tb1 96 rfl rfl, by decide, rfl, rfl⟩
theorem flX8_28 : zFl RX8 28 8 5 := ⟨RX8, TX8, rfl, tb1 98 rfl rfl, by decide⟩
theorem ffX8_28 : zFf RX8 28 8 5 := ⟨RX8, TX8, rfl, tb1 98 rfl rfl, by decide, rfl, rfl⟩
theorem flX9_9 : zFl RX9 9 9 0 := ⟨RX9, TX9, rfl, tb1 36 rfl rfl, by decide⟩
theorem ffX9_9 : zFf RX9 9 9 0 := ⟨RX9, TX9, rfl, tb1 36 rfl rfl, by decide, rfl, rfl⟩
theorem flX9_15 : zFl RX9 15 9 1 := ⟨RX9, TX9, rfl, tb1 37 rfl rfl, by decide⟩
theorem fpX9_15 : zFp RX9 15 9 1 := ⟨RX9, TX9, rfl, tb1 37 rfl rfl, by decide, rfl⟩
theorem flX11_7 : zFl RX11 7 11 0 := ⟨RX11, TX11, rfl, tb6 39 rfl rfl, by decide⟩
theorem ffX11_7 : zFf RX11 7 11 0 := ⟨RX11, TX11, rfl, tb6 39 rfl rfl, by decide, rfl, rfl⟩
theorem flX11_13 : zFl RX11 13 11 1 := ⟨RX11, TX11, rfl, tb6 40 rfl rfl, by decide⟩
theorem fpX11_13 : zFp RX11 13 11 1 := ⟨RX11, TX11, rfl, tb6 40 rfl rfl, by decide, rfl⟩
theorem flX11_17 : zFl RX11 17 11 2 := ⟨RX11, TX11, rfl, tb6 41 rfl rfl, by decide⟩
theorem fpX11_17 : zFp RX11 17 11 2 := ⟨RX11, TX11, rfl, tb6 41 rfl rfl, by decide, rfl⟩
theorem flX11_20 : zFl RX11 20 11 3 := ⟨RX11, TX11, rfl, tb6 42 rfl rfl, by decide⟩
theorem fpX11_20 : zFp RX11 20 11 3 := ⟨RX11, TX11, rfl, tb6 42 rfl rfl, by decide, rfl⟩
theorem flX11_23 : zFl RX11 23 11 4 := ⟨RX11, TX11, rfl, tb6 43 rfl rfl, by decide⟩
theorem fpX11_23 : zFp RX11 23 11 4 := ⟨RX11, TX11, rfl, tb6 43 rfl rfl, by decide, rfl⟩
theorem flX11_26 : zFl RX11 26 11 5 := ⟨RX11, TX11, rfl, tb6 44 rfl rfl, by decide⟩
theorem fpX11_26 : zFp RX11 26 11 5 := ⟨RX11, TX11, rfl, tb6 44 rfl rfl, by decide, rfl⟩
theorem flX11_29 : zFl RX11 29 11 6 := ⟨RX11, TX11, rfl, tb6 45 rfl rfl, by decide⟩
theorem fpX11_29 : zFp RX11 29 11 6 := ⟨RX11, TX11, rfl, tb6 45 rfl rfl, by decide, rfl⟩
theorem flX11_32 : zFl RX11 32 11 7 := ⟨RX11, TX11, rfl, tb6 46 rfl rfl, by decide⟩
theorem fpX11_32 : zFp RX11 32 11 7 := ⟨RX11, TX11, rfl, tb6 46 rfl rfl, by decide, rfl⟩
theorem flX11_36 : zFl RX11 36 11 8 := ⟨RX11, TX11, rfl, tb6 47 rfl rfl, by decide⟩
theorem fpX11_36 : zFp RX11 36 11 8 := ⟨RX11, TX11, rfl, tb6 47 rfl rfl, by decide, rfl⟩
theorem flX11_39 : zFl RX11 39 11 9 := ⟨RX11, TX11, rfl, tb6 48 rfl rfl, by decide⟩
theorem fpX11_39 : zFp RX11 39 11 9 := ⟨RX11, TX11, rfl, tb6 48 rfl rfl, by decide, rfl⟩
theorem flX11_42 : zFl RX11 42 11 10 := ⟨RX11, TX11, rfl, tb6 49 rfl rfl, by decide⟩
theorem fpX11_42 : zFp RX11 42 11 10 := ⟨RX11, TX11, rfl, tb6 49 rfl rfl, by decide, rfl⟩
theorem flX11_45 : zFl RX11 45 11 11 := ⟨RX11, TX11, rfl, tb6 50 rfl rfl, by decide⟩
theorem fpX11_45 : zFp RX11 45 11 11 := ⟨RX11, TX11, rfl, tb6 50 rfl rfl, by decide, rfl⟩
theorem flX11_48 : zFl RX11 48 11 12 := ⟨RX11, TX11, rfl, tb6 51 rfl rfl, by decide⟩
theorem fpX11_48 : zFp RX11 48 11 12 := ⟨RX11, TX11, rfl, tb6 51 rfl rfl, by decide, rfl⟩
theorem flX11_51 : zFl RX11 51 11 13 := ⟨RX11, TX11, rfl, tb6 52 rfl rfl, by decide⟩
theorem fpX11_51 : zFp RX11 51 11 13 := ⟨RX11, TX11, rfl, tb6 52 rfl rfl, by decide, rfl⟩
theorem flX11_54 : zFl RX11 54 11 14 := ⟨RX11, TX11, rfl, tb6 53 rfl rfl, by decide⟩
theorem ffX11_54 : zFf RX11 54 11 14 := ⟨RX11, TX11, rfl, tb6 53 rfl rfl, by decide, rfl, rfl⟩
theorem flX11_57 : zFl RX11 57 11 15 := ⟨RX11, TX11, rfl, tb6 54 rfl rfl, by decide⟩
theorem ffX11_57 : zFf RX11 57 11 15 := ⟨RX11, TX11, rfl, tb6 54 rfl rfl, by decide, rfl, rfl⟩
theorem flX11_60 : zFl RX11 60 11 16 := ⟨RX11, TX11, rfl, tb6 55 rfl rfl, by decide⟩
theorem ffX11_60 : zFf RX11 60 11 16 := ⟨RX11, TX11, rfl, tb6 55 rfl rfl, by decide, rfl, rfl⟩
theorem flX11_63 : zFl RX11 63 11 17 := ⟨RX11, TX11, rfl, tb6 56 rfl rfl, by decide⟩
theorem ffX11_63 : zFf RX11 63 11 17 := ⟨RX11, TX11, rfl, tb6 56 rfl rfl, by decide, rfl, rfl⟩
theorem flX11_66 : zFl RX11 66 11 18 := ⟨RX11, TX11, rfl, tb6 57 rfl rfl, by decide⟩
theorem ffX11_66 : zFf RX11 66 11 18 := ⟨RX11, TX11, rfl, tb6 57 rfl rfl, by decide, rfl, rfl⟩
theorem flX11_69 : zFl RX11 69 11 19 := ⟨RX11, TX11, rfl, tb6 58 rfl rfl, by decide⟩
theorem ffX11_69 : zFf RX11 69 11 19 := ⟨RX11, TX11, rfl, tb6 58 rfl rfl, by decide, rfl, rfl⟩
theorem flX11_72 : zFl RX11 72 11 20 := ⟨RX11, TX11, rfl, tb6 59 rfl rfl, by decide⟩
theorem ffX11_72 : zFf RX11 72 11 20 := ⟨RX11, TX11, rfl, tb6 59 rfl rfl, by decide, rfl, rfl⟩
theorem flX11_75 : zFl RX11 75 11 21 := ⟨RX11, TX11, rfl, tb6 60 rfl rfl, by decide⟩
theorem ffX11_75 : zFf RX11 75 11 21 := ⟨RX11, TX11, rfl, tb6 60 rfl rfl, by decide, rfl, rfl⟩
theorem flX11_78 : zFl RX11 78 11 22 := ⟨RX11, TX11, rfl, tb6 61 rfl rfl, by decide⟩
theorem ffX11_78 : zFf RX11 78 11 22 := ⟨RX11, TX11, rfl, tb6 61 rfl rfl, by decide, rfl, rfl⟩
theorem flX11_81 : zFl RX11 81 11 23 := ⟨RX11, TX11, rfl, tb6 62 rfl rfl, by decide⟩
theorem ffX11_81 : zFf RX11 81 11 23 := ⟨RX11, TX11, rfl, tb6 62 rfl rfl, by decide, rfl, rfl⟩
theorem flX11_84 : zFl RX11 84 11 24 := ⟨RX11, TX11, rfl, tb6 63 rfl rfl, by decide⟩
theorem ffX11_84 : zFf RX11 84 11 24 := ⟨RX11, TX11, rfl, tb6 63 rfl rfl, by decide, rfl, rfl⟩
theorem flX11_87 : zFl RX11 87 11 25 := ⟨RX11, TX11, rfl, tb6 64 rfl rfl, by decide⟩
theorem ffX11_87 : zFf RX11 87 11 25 := ⟨RX11, TX11, rfl, tb6 64 rfl rfl, by decide, rfl, rfl⟩
theorem flX11_90 : zFl RX11 90 11 26 := ⟨RX11, TX11, rfl, tb6 65 rfl rfl, by decide⟩
theorem ffX11_90 : zFf RX11 90 11 26 := ⟨RX11, TX11, rfl, tb6 65 rfl rfl, by decide, rfl, rfl⟩
theorem flX11_93 : zFl RX11 93 11 27 := ⟨RX11, TX11, rfl, tb6 66 rfl rfl, by decide⟩
theorem ffX11_93 : zFf RX11 93 11 27 := ⟨RX11, TX11, rfl, tb6 66 rfl rfl, by decide, rfl, rfl⟩
theorem flX11_96 : zFl RX11 96 11 28 := ⟨RX11, TX11, rfl, tb6 67 rfl rfl, by decide⟩
theorem ffX11_96 : zFf RX11 96 11 28 := ⟨RX11, TX11, rfl, tb6 67 rfl rfl, by decide, rfl, rfl⟩
theorem flX11_99 : zFl RX11 99 11 29 := ⟨RX11, TX11, rfl, tb6 68 rfl rfl, by decide⟩
theorem ffX11_99 : zFf RX11 99 11 29 := ⟨RX11, TX11, rfl, tb6 68 rfl rfl, by decide, rfl, rfl⟩
theorem flX11_102 : zFl RX11 102 11 30 := ⟨RX11, TX11, rfl, tb6 69 rfl rfl, by decide⟩
theorem ffX11_102 : zFf RX11 102 11 30 := ⟨RX11, TX11, rfl, tb6 69 rfl rfl, by decide, rfl, rfl⟩
theorem flX11_105 : zFl RX11 105 11 31 := ⟨RX11, TX11, rfl, tb6 70 rfl rfl, by decide⟩
theorem ffX11_105 : zFf RX11 105 11 31 := ⟨RX11, TX11, rfl, tb6 70 rfl rfl, by decide, rfl, rfl⟩
theorem flX11_108 : zFl RX11 108 11 32 := ⟨RX11, TX11, rfl, tb6 71 rfl rfl, by decide⟩
theorem ffX11_108 : zFf RX11 108 11 32 := ⟨RX11, TX11, rfl, tb6 71 rfl rfl, by decide, rfl, rfl⟩
theorem flX11_112 : zFl RX11 112 11 33 := ⟨RX11, TX11, rfl, tb6 72 rfl rfl, by decide⟩
theorem ffX11_112 : zFf RX11 112 11 33 := ⟨RX11, TX11, rfl, tb6 72 rfl rfl, by decide, rfl, rfl⟩
theorem flX11_115 : zFl RX11 115 11 34 := ⟨RX11, TX11, rfl, tb6 73 rfl rfl, by decide⟩
theorem fpX11_115 : zFp RX11 115 11 34 := ⟨RX11, TX11, rfl, tb6 73 rfl rfl, by decide, rfl⟩
theorem flX11_118 : zFl RX11 118 11 35 := ⟨RX11, TX11, rfl, tb6 74 rfl rfl, by decide⟩
theorem fpX11_118 : zFp RX11 118 11 35 := ⟨RX11, TX11, rfl, tb6 74 rfl rfl, by decide, rfl⟩
theorem flX11_121 : zFl RX11 121 11 36 := ⟨RX11, TX11, rfl, tb6 75 rfl rfl, by decide⟩
theorem ffX11_121 : zFf RX11 121 11 36 := ⟨RX11, TX11, rfl, tb6 75 rfl rfl, by decide, rfl, rfl⟩
theorem flX11_124 : zFl RX11 124 11 37 := ⟨RX11, TX11, rfl, tb6 76 rfl rfl, by decide⟩
theorem ffX11_124 : zFf RX11 124 11 37 := ⟨RX11, TX11, rfl, tb6 76 rfl rfl, by decide, rfl, rfl⟩
theorem flX11_127 : zFl RX11 127 11 38 := ⟨RX11, TX11, rfl, tb6 77 rfl rfl, by decide⟩
theorem ffX11_127 : zFf RX11 127 11 38 := ⟨RX11, TX11, rfl, tb6 77 rfl rfl, by decide, rfl, rfl⟩
theorem flX11_131 : zFl RX11 131 11 39 := ⟨RX11, TX11, rfl, tb6 78 rfl rfl, by decide⟩
theorem ffX11_131 : zFf RX11 131 11 39 := ⟨RX11, TX11, rfl, tb6 78 rfl rfl, by decide, rfl, rfl⟩
theorem flX11_134 : zFl RX11 134 11 40 := ⟨RX11, TX11, rfl, tb6 79 rfl rfl, by decide⟩
theorem ffX11_134 : zFf RX11 134 11 40 := ⟨RX11, TX11, rfl, tb6 79 rfl rfl, by decide, rfl, rfl⟩
theorem flX11_137 : zFl RX11 137 11 41 := ⟨RX11, TX11, rfl, tb6 80 rfl rfl, by decide⟩
theorem fpX11_137 : zFp RX11 137 11 41 := ⟨RX11, TX11, rfl, tb6 80 rfl rfl, by decide, rfl⟩
theorem flX11_140 : zFl RX11 140 11 42 := ⟨RX11, TX11, rfl, tb6 81 rfl rfl, by decide⟩
theorem fpX11_140 : zFp RX11 140 11 42 := ⟨RX11, TX11, rfl, tb6 81 rfl rfl, by decide, rfl⟩
theorem flX11_143 : zFl RX11 143 11 43 := ⟨RX11, TX11, rfl, tb6 82 rfl rfl, by decide⟩
theorem ffX11_143 : zFf RX11 143 11 43 := ⟨RX11, TX11, rfl, tb6 82 rfl rfl, by decide, rfl, rfl⟩
theorem flX11_146 : zFl RX11 146 11 44 := ⟨RX11, TX11, rfl, tb6 83 rfl rfl, by decide⟩
theorem fpX11_146 : zFp RX11 146 11 44 := ⟨RX11, TX11, rfl, tb6 83 rfl rfl, by decide, rfl⟩
theorem flX11_149 : zFl RX11 149 11 45 := ⟨RX11, TX11, rfl, tb6 84 rfl rfl, by decide⟩
theorem fpX11_149 : zFp RX11 149 11 45 := ⟨RX11, TX11, rfl, tb6 84 rfl rfl, by decide, rfl⟩
theorem flX11_153 : zFl RX11 153 11 46 := ⟨RX11, TX11, rfl, tb6 85 rfl rfl, by decide⟩
theorem ffX11_153 : zFf RX11 153 11 46 := ⟨RX11, TX11, rfl, tb6 85 rfl rfl, by decide, rfl, rfl⟩
theorem flX11_156 : zFl RX11 156 11 47 := ⟨RX11, TX11, rfl, tb6 86 rfl rfl, by decide⟩
theorem ffX11_156 : zFf RX11 156 11 47 := ⟨RX11, TX11, rfl, tb6 86 rfl rfl, by decide, rfl, rfl⟩
theorem flX11_159 : zFl RX11 159 11 48 := ⟨RX11, TX11, rfl, tb6 87 rfl rfl, by decide⟩
theorem ffX11_159 : zFf RX11 159 11 48 := ⟨RX11, TX11, rfl, tb6 87 rfl rfl, by decide, rfl, rfl⟩
theorem flX11_162 : zFl RX11 162 11 49 := ⟨RX11, TX11, rfl, tb6 88 rfl rfl, by decide⟩
theorem ffX11_162 : zFf RX11 162 11 49 := ⟨RX11, TX11, rfl, tb6 88 rfl rfl, by decide, rfl, rfl⟩
theorem flX11_165 : zFl RX11 165 11 50 := ⟨RX11, TX11, rfl, tb6 89 rfl rfl, by decide⟩
theorem ffX11_165 : zFf RX11 165 11 50 := ⟨RX11, TX11, rfl, tb6 89 rfl rfl, by decide, rfl, rfl⟩
theorem flX11_168 : zFl RX11 168 11 51 := ⟨RX11, TX11, rfl, tb6 90 rfl rfl, by decide⟩
theorem ffX11_168 : zFf RX11 168 11 51 := ⟨RX11, TX11, rfl, tb6 90 rfl rfl, by decide, rfl, rfl⟩
theorem flX11_171 : zFl RX11 171 11 52 := ⟨RX11, TX11, rfl, tb6 91 rfl rfl, by decide⟩
theorem ffX11_171 : zFf RX11 171 11 52 := ⟨RX11, TX11, rfl, tb6 91 rfl rfl, by decide, rfl, rfl⟩
theorem flX11_174 : zFl RX11 174 11 53 := ⟨RX11, TX11, rfl, tb6 92 rfl rfl, by decide⟩
theorem ffX11_174 : zFf RX11 174 11 53 := ⟨RX11, TX11, rfl, tb6 92 rfl rfl, by decide, rfl, rfl⟩
theorem flX11_177 : zFl RX11 177 11 54 := ⟨RX11, TX11, rfl, tb6 93 rfl rfl, by decide⟩
theorem ffX11_177 : zFf RX11 177 11 54 := ⟨RX11, TX11, rfl, tb6 93 rfl rfl, by decide, rfl, rfl⟩
theorem flX11_180 : zFl RX11 180 11 55 := ⟨RX11, TX11, rfl, tb6 94 rfl rfl, by decide⟩
theorem ffX11_180 : zFf RX11 180 11 55 := ⟨RX11, TX11, rfl, tb6 94 rfl rfl, by decide, rfl, rfl⟩
theorem flX11_183 : zFl RX11 183 11 56 := ⟨RX11, TX11, rfl, tb6 95 rfl rfl, by decide⟩
theorem ffX11_183 : zFf RX11 183 11 56 := ⟨RX11, TX11, rfl, tb6 95 rfl rfl, by decide, rfl, rfl⟩
theorem flX11_186 : zFl RX11 186 11 57 := ⟨RX11, TX11, rfl, tb6 96 rfl rfl, by decide⟩
theorem fpX11_186 : zFp RX11 186 11 57 := ⟨RX11, TX11, rfl, tb6 96 rfl rfl, by decide, rfl⟩
theorem flX11_189 : zFl RX11 189 11 58 := ⟨RX11, TX11, rfl, tb6 97 rfl rfl, by decide⟩
theorem fpX11_189 : zFp RX11 189 11 58 := ⟨RX11, TX11, rfl, tb6 97 rfl rfl, by decide, rfl⟩
theorem flX11_192 : zFl RX11 192 11 59 := ⟨RX11, TX11, rfl, tb6 98 rfl rfl, by decide⟩
theorem fpX11_192 : zFp RX11 192 11 59 := ⟨RX11, TX11, rfl, tb6 98 rfl rfl, by decide, rfl⟩
theorem flX11_195 : zFl RX11 195 11 60 := ⟨RX11, TX11, rfl, tb6 99 rfl rfl, by decide⟩
theorem ffX11_195 : zFf RX11 195 11 60 := ⟨RX11, TX11, rfl, tb6 99 rfl rfl, by decide, rfl, rfl⟩
theorem flX11_198 : zFl RX11 198 11 61 := ⟨RX11, TX11, rfl, tb6 100 rfl rfl, by decide⟩
theorem fpX11_198 : zFp RX11 198 11 61 := ⟨RX11, TX11, rfl, tb6 100 rfl rfl, by decide, rfl⟩
theorem flX11_201 : zFl RX11 201 11 62 := ⟨RX11, TX11, rfl, tb6 101 rfl rfl, by decide⟩
theorem fpX11_201 : zFp RX11 201 11 62 := ⟨RX11, TX11, rfl, tb6 101 rfl rfl, by decide, rfl⟩
theorem flX11_204 : zFl RX11 204 11 63 := ⟨RX11, TX11, rfl, tb6 102 rfl rfl, by decide⟩
theorem fpX11_204 : zFp RX11 204 11 63 := ⟨RX11, TX11, rfl, tb6 102 rfl rfl, by decide, rfl⟩
theorem flX11_207 : zFl RX11 207 11 64 := ⟨RX11, TX11, rfl, tb6 103 rfl rfl, by decide⟩
theorem fpX11_207 : zFp RX11 207 11 64 := ⟨RX11, TX11, rfl, tb6 103 rfl rfl, by decide, rfl⟩
theorem flX11_210 : zFl RX11 210 11 65 := ⟨RX11, TX11, rfl, tb6 104 rfl rfl, by decide⟩
theorem fpX11_210 : zFp RX11 210 11 65 := ⟨RX11, TX11, rfl, tb6 104 rfl rfl, by decide, rfl⟩
theorem flX11_213 : zFl RX11 213 11 66 := ⟨RX11, TX11, rfl, tb6 105 rfl rfl, by decide⟩
theorem fpX11_213 : zFp RX11 213 11 66 := ⟨RX11, TX11, rfl, tb6 105 rfl rfl, by decide, rfl⟩
theorem flX11_216 : zFl RX11 216 11 67 := ⟨RX11, TX11, rfl, tb6 106 rfl rfl, by decide⟩
theorem ffX11_216 : zFf RX11 216 11 67 := ⟨RX11, TX11, rfl, tb6 106 rfl rfl, by decide, rfl, rfl⟩
theorem flX11_219 : zFl RX11 219 11 68 := ⟨RX11, TX11, rfl, tb6 107 rfl rfl, by decide⟩
theorem fpX11_219 : zFp RX11 219 11 68 := ⟨RX11, TX11, rfl, tb6 107 rfl rfl, by decide, rfl⟩
theorem flX11_222 : zFl RX11 222 11 69 := ⟨RX11, TX11, rfl, tb6 108 rfl rfl, by decide⟩
theorem fpX11_222 : zFp RX11 222 11 69 := ⟨RX11, TX11, rfl, tb6 108 rfl rfl, by decide, rfl⟩
theorem flX11_225 : zFl RX11 225 11 70 := ⟨RX11, TX11, rfl, tb6 109 rfl rfl, by decide⟩
theorem ffX11_225 : zFf RX11 225 11 70 := ⟨RX11, TX11, rfl, tb6 109 rfl rfl, by decide, rfl, rfl⟩
theorem flX11_228 : zFl RX11 228 11 71 := ⟨RX11, TX11, rfl, tb6 110 rfl rfl, by decide⟩
theorem ffX11_228 : zFf RX11 228 11 71 := ⟨RX11, TX11, rfl, tb6 110 rfl rfl, by decide, rfl, rfl⟩
theorem flX11_231 : zFl RX11 231 11 72 := ⟨RX11, TX11, rfl, tb6 111 rfl rfl, by decide⟩
theorem fpX11_231 : zFp RX11 231 11 72 := ⟨RX11, TX11, rfl, tb6 111 rfl rfl, by decide, rfl⟩
theorem flX11_234 : zFl RX11 234 11 73 := ⟨RX11, TX11, rfl, tb6 112 rfl rfl, by decide⟩
theorem fpX11_234 : zFp RX11 234 11 73 := ⟨RX11, TX11, rfl, tb6 112 rfl rfl, by decide, rfl⟩
theorem flX11_237 : zFl RX11 237 11 74 := ⟨RX11, TX11, rfl, tb6 113 rfl rfl, by decide⟩
theorem ffX11_237 : zFf RX11 237 11 74 := ⟨RX11, TX11, rfl, tb6 113 rfl rfl, by decide, rfl, rfl⟩
theorem flX11_240 : zFl RX11 240 11 75 := ⟨RX11, TX11, rfl, tb6 114 rfl rfl, by decide⟩
theorem ffX11_240 : zFf RX11 240 11 75 := ⟨RX11, TX11, rfl, tb6 114 rfl rfl, by decide, rfl, rfl⟩
theorem flX11_243 : zFl RX11 243 11 76 := ⟨RX11, TX11, rfl, tb6 115 rfl rfl, by decide⟩
theorem ffX11_243 : zFf RX11 243 11 76 := ⟨RX11, TX11, rfl, tb6 115 rfl rfl, by decide, rfl, rfl⟩
theorem flX11_246 : zFl RX11 246 11 77 := ⟨RX11, TX11, rfl, tb6 116 rfl rfl, by decide⟩
theorem ffX11_246 : zFf RX11 246 11 77 := ⟨RX11, TX11, rfl, tb6 116 rfl rfl, by decide, rfl, rfl⟩
theorem flX11_249 : zFl RX11 249 11 78 := ⟨RX11, TX11, rfl, tb6 117 rfl rfl, by decide⟩
theorem fpX11_249 : zFp RX11 249 11 78 := ⟨RX11, TX11, rfl, tb6 117 rfl rfl, by decide, rfl⟩

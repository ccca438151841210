/-! MY OWN: rows for cells and calls, over the pure memory. -/
theorem za_lo {b : zB} {p : Nat} (h : p < 1000) : za b p = b.1 + p := if_pos h
theorem zt_ref {b : zB} {p : Nat} (h : 1 ≤ p) : zt b (.ref p) = .ref (za b p) := by
  obtain ⟨k, rfl⟩ : ∃ k, p = k + 1 := ⟨p - 1, by omega⟩
  rfl
/-- x is a cell of the kind c -/
def zAt (Y : zY) (μ : zM) (x c : Nat) : Prop := 1 ≤ x ∧ x ≤ μ.2.2.2 ∧ Y.1 x = c
/-- the link own.i is the field k of the type c -/
def zFl (own : String) (i c k : Nat) : Prop := ∃ (C : String) (T : u_T), vwCl[c]? = some (C, T, zNf c) ∧ Cond.fieldLink own i (T k).1 (T k).2.1 (T k).2.2.1 ∈ TB ∧ k < zNf c
def zFp (own : String) (i c k : Nat) : Prop := ∃ (C : String) (T : u_T), vwCl[c]? = some (C, T, zNf c) ∧ Cond.fieldLink own i (T k).1 (T k).2.1 (T k).2.2.1 ∈ TB ∧ k < zNf c ∧ (T k).2.2.2 = false
def zFf (own : String) (i c k : Nat) : Prop := ∃ (C : String) (T : u_T), vwCl[c]? = some (C, T, zNf c) ∧ Cond.fieldLink own i (T k).1 (T k).2.1 (T k).2.2.1 ∈ TB ∧ k < zNf c ∧ (T k).2.2.2 = true ∧ (T k).1 = own
/-- one cell written: the heap is as the new memory says -/
theorem zWd.upd {Y : zY} {G : zG} {A : Nat → Prop} {s : State} {b : zB} {μ μ' : zM} {H H1 : Heap} {locs : List Loc} {x i : Nat} (hW : zWd Y G A s b μ H locs) (g1 : 1 ≤ x) (g2 : x ≤ μ.2.2.2) (hn : μ'.2.2.2 = μ.2.2.2) (ha : va_at G.1 vwCl (za b x, zCell Y G b μ' x) H1) (hz : H1.size = H.size) (ho : ∀ q : Nat, q ≠ za b x → H1[q]? = H[q]?) (hq : ∀ q, q ≠ x → zCell Y G b μ' q = zCell Y G b μ q) : zWd Y G A s b μ' H1 (locs ++ [⟨za b x, i⟩]) := by
  obtain ⟨hP, hD, hS, hs⟩ := hW
  have he := zW_get (Y := Y) (G := G) (b := b) (μ := μ) g1 g2
  have e := zW_set (Y := Y) (G := G) (b := b) (μ := μ) (μ' := μ') g1 g2 hn rfl hq
  refine ⟨?_, ?_, hS.put hz ho (hD.2 _ _ he), by rw [hz, hn]; exact hs⟩
  · rw [← e]; exact hP.set hD he ha ho
  · rw [← e]; exact hD.set he
section ZH
variable {Y : zY} {d kc ks : Nat} {q : zMI} {pc : Nat} {ls : List (Nat × Value)} {st : List Value} {μ : zM} {o : Option Value × zM}
theorem zR.getf {x ci k i : Nat} {v : Value} (dg : decode q.2.1 pc = .ok (.getfield i, 3)) (hf : zFl q.1.cls i ci k) (hc : zCF ci) (hx : zAt Y μ x ci) (hv : ∀ b, zFv b μ x k (zTy ci k) = zt b v) (h : zR Y d kc ks q (pc + 3) ls (v :: st) μ o) : zR Y d kc ks q pc ls (.ref x :: st) μ o := by
  intro l p e s m args below meth c G A b mc ms Q En hA hK hQ H locs cells slots Ls hW hl h1 h2
  obtain ⟨C, T, e1, hw, hk⟩ := hf
  obtain ⟨C', T', e2, hin, hty, hnm, hc12⟩ := hc
  cases e1.symm.trans e2
  obtain ⟨x1, x2, x3⟩ := hx
  have he := zW_get (Y := Y) (G := G) (b := b) (μ := μ) x1 x2
  rw [zCell_obj x3 hc12] at he
  have hk' := h l p e s m args below meth c G A b mc ms Q En hA hK hQ H locs cells slots Ls hW hl h1 h2
  rw [List.map_cons, zt_ref x1]
  exact va_get En.1 En.2.1 (D := G.1) (Ts := TB) En.2.2.2.2.1 hin En.2.2.2.1 hK.1 hW.1 (x - 1) he e2 k hk (En.2.2.2.2.1 _ hw) (fun _ z => z) ((zFs_get hk).trans (congrArg some (hv b))) dg hk'
/-- a field written -/
theorem zR.putG {x ci k i : Nat} {v : Value} {μ' : zM} (dg : decode q.2.1 pc = .ok (.putfield i, 3)) (hf : zFp q.1.cls i ci k ∨ (zFf q.1.cls i ci k ∧ q.1.name = "<init>")) (hc : zCF ci) (hx : zAt Y μ x ci) (hnr : ∀ b, narrow (zTy ci k) (zt b v) = zt b v) (hft : ∀ b, fits (zTy ci k) (zt b v) = true) (hn : μ'.2.2.2 = μ.2.2.2) (hv : ∀ b, zt b v = zFv b μ' x k (zTy ci k)) (hj : ∀ b j, j ≠ k → zFv b μ' x j (zTy ci j) = zFv b μ x j (zTy ci j)) (hq' : ∀ p, p ≠ x → μ'.1 p = μ.1 p ∧ μ'.2.1 p = μ.2.1 p ∧ μ'.2.2.1 p = μ.2.2.1 p) (h : zR Y d kc ks q (pc + 3) ls st μ' o) : zR Y d kc ks q pc ls (v :: .ref x :: st) μ o := by
  intro l p e s m args below meth c G A b mc ms Q En hA hK hQ H locs cells slots Ls hW hl h1 h2
  obtain ⟨C', T', e2, hin, hty, hnm, hc12⟩ := hc
  obtain ⟨x1, x2, x3⟩ := hx
  have he := zW_get (Y := Y) (G := G) (b := b) (μ := μ) x1 x2
  rw [zCell_obj x3 hc12] at he
  have hts := En.2.2.2.2.1
  have hap := va_apart (own := q.1.cls) hts hin (zTy ci) hty hnm hK.1 e2
  obtain ⟨r, g1, cell, q1, q2, q3, q4⟩ := hW.1 _ _ he
  obtain rfl : r = (C', T', zNf ci) := Option.some.inj (g1.symm.trans e2)
  obtain ⟨hS, hfc, kC, hkC, hkind⟩ := hK.1.1 ci _ e2
  have fin : ∀ (H' : Heap) (f : Field), f.slot = (G.1.2 ci) k → k < zNf ci → H'[za b x]? = some (cell.setSlot f.slot (zt b v)) → H'.size = H.size → (∀ p : Nat, p ≠ za b x → H'[p]? = H[p]?) → W p l e (zRm d mc ms) s m args below meth c H' (locs ++ [⟨za b x, f.slot⟩]) cells slots Q (F0 m (pc + 3) Ls (st.map (zt b))) := by
    intro H' f hsl hk w1 w2 w3
    refine h l p e s m args below meth c G A b mc ms Q En hA hK hQ H' _ cells slots Ls (hW.upd x1 x2 hn ?_ w2 w3 (fun p hp => zCell_of (hq' p hp).1 (hq' p hp).2.1 (hq' p hp).2.2)) hl h1 h2
    rw [zCell_obj x3 hc12]
    refine ⟨_, e2, t_OB.to (V := updV (vp_V (zFs b μ x ci)) k (zt b v)) ⟨_, w1, q2, q3, by rw [hsl]; exact t_set q4 hap hk (zt b v)⟩ (fun j hjn => ?_)⟩
    rw [vp_updV_set (by rw [zFs_len]; exact hk), zFs_set hk (hv b) (hj b)]
  rw [List.map_cons, List.map_cons, zt_ref x1]
  rcases hf with ⟨C, T, e1, hw, hk, hfn⟩ | ⟨⟨C, T, e1, hw, hk, hfn, hdecl⟩, hinit⟩
  · cases e1.symm.trans e2
    obtain ⟨cf, kf, fi, f, hi, hsl⟩ := hS k hk
    have hlay := hts _ (hin _ (u_in_lay hk))
    unfold u_lay at hlay
    rw [if_neg (by rw [hfn]; decide)] at hlay
    have hst := (u_facts hfc hkC (u_lays hts hin hk) hi).1
    have h6 := u_store hfc hkC hkind hlay hi (hty k hk) (hnr b) (hft b)
    exact W.putK En.1 En.2.1 (f := f) ⟨En.2.2.2.1, hts _ hw, ⟨_, _, _, hi⟩, hst⟩ (by rw [q2]; exact h6) q1 q3 (by rw [hsl]; exact k2_hasslot (q4 k hk)) rfl rfl dg (fun H' w1 w2 w3 => fin H' f hsl hk w1 w2 w3)
  · cases e1.symm.trans e2
    obtain ⟨cf, kf, fi, f, hi, hsl⟩ := hS k hk
    have hlay := hts _ (hin _ (u_in_lay hk))
    unfold u_lay at hlay
    rw [if_pos hfn] at hlay
    have hst := (u_facts hfc hkC (u_lays hts hin hk) hi).1
    have hcf : m.cls = cf := by
      obtain ⟨_, _, c', _, _, _, -, -, hf', -, -, -, hown2, -⟩ := Cond.laysFinal_spec hlay
      have z1 : c' = cf := by have := hi.symm.trans hf'; simp at this; exact this.1.symm
      rw [hdecl] at hown2
      rw [← z1]; exact Option.some.inj (En.2.2.2.1.symm.trans hown2)
    have h6 := u_fits hfc hkC hkind (Or.inr hlay) hi (hty k hk) (hnr b) (hft b)
    exact W.putFinK En.1 En.2.1 En.2.2.2.1 (hts _ hw) hi hst hcf (En.2.2.2.2.2.2.2 hinit) (by rw [q2]; exact h6) q1 q3 (by rw [hsl]; exact k2_hasslot (q4 k hk)) rfl rfl dg (fun H' w1 w2 w3 => fin H' f hsl hk w1 w2 w3)
theorem zR.putI {x ci k i : Nat} {v : Int32} (dg : decode q.2.1 pc = .ok (.putfield i, 3)) (hf : zFp q.1.cls i ci k ∨ (zFf q.1.cls i ci k ∧ q.1.name = "<init>")) (hc : zCF ci) (hx : zAt Y μ x ci) (hnr : narrow (zTy ci k) (.int v) = .int v) (hft : fits (zTy ci k) (.int v) = true) (hty : ∀ (b : zB) (ν : zM), zFv b ν x k (zTy ci k) = .int (ν.1 x k)) (h : zR Y d kc ks q (pc + 3) ls st (sI μ x k v) o) : zR Y d kc ks q pc ls (.int v :: .ref x :: st) μ o :=
  zR.putG (μ' := sI μ x k v) dg hf hc hx (fun _ => hnr) (fun _ => hft) rfl (fun b => by rw [hty]; simp [sI, va_up, upd, zt]) (fun b j hj => zFv_of (μ := μ) (μ' := sI μ x k v) (by simp [sI, va_up, upd, hj]) rfl rfl _) (fun p hp => ⟨va_up_ne _ _ hp, rfl, rfl⟩) h
theorem zR.putL {x ci k i : Nat} {v : Int64} (dg : decode q.2.1 pc = .ok (.putfield i, 3)) (hf : zFp q.1.cls i ci k ∨ (zFf q.1.cls i ci k ∧ q.1.name = "<init>")) (hc : zCF ci) (hx : zAt Y μ x ci) (hty : zTy ci k = .long) (h : zR Y d kc ks q (pc + 3) ls st (sL μ x k v) o) : zR Y d kc ks q pc ls (.long v :: .ref x :: st) μ o :=
  zR.putG (μ' := sL μ x k v) dg hf hc hx (fun _ => by rw [hty]; rfl) (fun _ => by rw [hty]; rfl) rfl (fun b => by rw [hty]; simp [zFv, sL, va_up, vp_updL, zt]) (fun b j hj => zFv_of (μ := μ) (μ' := sL μ x k v) rfl (by simp [sL, va_up, vp_updL, hj]) rfl _) (fun p hp => ⟨rfl, va_up_ne _ _ hp, rfl⟩) h
theorem zt_rfit (b : zB) (v : Nat) (ty : FieldType) (h : (∃ n, ty = .object n) ∨ ∃ t, ty = .array t) : narrow ty (zt b (.ref v)) = zt b (.ref v) ∧ fits ty (zt b (.ref v)) = true := by
  cases v <;> rcases h with ⟨n, rfl⟩ | ⟨n, rfl⟩ <;> exact ⟨rfl, rfl⟩
theorem zR.putR {x ci k i v : Nat} (dg : decode q.2.1 pc = .ok (.putfield i, 3)) (hf : zFp q.1.cls i ci k ∨ (zFf q.1.cls i ci k ∧ q.1.name = "<init>")) (hc : zCF ci) (hx : zAt Y μ x ci) (hty : (∃ n, zTy ci k = .object n) ∨ ∃ t, zTy ci k = .array t) (h : zR Y d kc ks q (pc + 3) ls st (sR μ x k v) o) : zR Y d kc ks q pc ls (.ref v :: .ref x :: st) μ o :=
  zR.putG (μ' := sR μ x k v) dg hf hc hx (fun b => (zt_rfit b v _ hty).1) (fun b => (zt_rfit b v _ hty).2) rfl (fun b => by rcases hty with ⟨n, e⟩ | ⟨n, e⟩ <;> rw [e] <;> simp [zFv, sR, va_up]) (fun b j hj => zFv_of (μ := μ) (μ' := sR μ x k v) rfl rfl (by simp [sR, va_up, hj]) _) (fun p hp => ⟨rfl, rfl, va_up_ne _ _ hp⟩) h
theorem zCell_20 {G : zG} {b : zB} {x : Nat} (h : Y.1 x = 20) : zCell Y G b μ x = .inl (G.2.1, Y.2.1 x, .inl (μ.1 x)) := by unfold zCell; rw [if_pos h]
theorem zCell_21 {G : zG} {b : zB} {x : Nat} (h : Y.1 x = 21) : zCell Y G b μ x = .inl (G.2.2.1, Y.2.1 x, .inr (.inl (μ.2.1 x))) := by unfold zCell; rw [if_neg (by omega), if_pos h]
theorem zCell_22 {G : zG} {b : zB} {x : Nat} (h : Y.1 x = 22) : zCell Y G b μ x = .inl (G.2.2.2.1, Y.2.1 x, .inl (μ.1 x)) := by unfold zCell; rw [if_neg (by omega), if_neg (by omega), if_pos h]
theorem zCell_23 {G : zG} {b : zB} {x : Nat} (h : Y.1 x = 23) : zCell Y G b μ x = .inl (G.2.2.2.2, Y.2.1 x, .inl (μ.1 x)) := by unfold zCell; rw [if_neg (by omega), if_neg (by omega), if_neg (by omega), if_pos h]
theorem zR.iald {x : Nat} {i : Int32} (dg : decode q.2.1 pc = .ok (.iaload, 1)) (hx : zAt Y μ x 20) (hi : vp_in i (Y.2.1 x)) (h : zR Y d kc ks q (pc + 1) ls (.int (μ.1 x i.toNatClampNeg) :: st) μ o) : zR Y d kc ks q pc ls (.int i :: .ref x :: st) μ o := by
  intro l p e s m args below meth c G A b mc ms Q En hA hK hQ H locs cells slots Ls hW hl h1 h2
  obtain ⟨x1, x2, x3⟩ := hx
  have he := zW_get (Y := Y) (G := G) (b := b) (μ := μ) x1 x2
  rw [zCell_20 x3] at he
  have hk := h l p e s m args below meth c G A b mc ms Q En hA hK hQ H locs cells slots Ls hW hl h1 h2
  rw [List.map_cons, List.map_cons, zt_ref x1]
  exact va_iald En.1 En.2.1 hK.1 hW.1 (x - 1) 0 he rfl hi dg hk
theorem zR.lald {x : Nat} {i : Int32} (dg : decode q.2.1 pc = .ok (.laload, 1)) (hx : zAt Y μ x 21) (hi : vp_in i (Y.2.1 x)) (h : zR Y d kc ks q (pc + 1) ls (.long (μ.2.1 x i.toNatClampNeg) :: st) μ o) : zR Y d kc ks q pc ls (.int i :: .ref x :: st) μ o := by
  intro l p e s m args below meth c G A b mc ms Q En hA hK hQ H locs cells slots Ls hW hl h1 h2
  obtain ⟨x1, x2, x3⟩ := hx
  have he := zW_get (Y := Y) (G := G) (b := b) (μ := μ) x1 x2
  rw [zCell_21 x3] at he
  have hk := h l p e s m args below meth c G A b mc ms Q En hA hK hQ H locs cells slots Ls hW hl h1 h2
  rw [List.map_cons, List.map_cons, zt_ref x1]
  exact va_lald En.1 En.2.1 hK.1 hW.1 (x - 1) 1 he rfl hi dg hk
theorem zR.bald {x : Nat} {i : Int32} (dg : decode q.2.1 pc = .ok (.baload, 1)) (hx : zAt Y μ x 22) (hi : vp_in i (Y.2.1 x)) (h : zR Y d kc ks q (pc + 1) ls (.int (μ.1 x i.toNatClampNeg) :: st) μ o) : zR Y d kc ks q pc ls (.int i :: .ref x :: st) μ o := by
  intro l p e s m args below meth c G A b mc ms Q En hA hK hQ H locs cells slots Ls hW hl h1 h2
  obtain ⟨x1, x2, x3⟩ := hx
  have he := zW_get (Y := Y) (G := G) (b := b) (μ := μ) x1 x2
  rw [zCell_22 x3] at he
  have hk := h l p e s m args below meth c G A b mc ms Q En hA hK hQ H locs cells slots Ls hW hl h1 h2
  rw [List.map_cons, List.map_cons, zt_ref x1]
  exact va_bald En.1 En.2.1 hK.1 hW.1 (x - 1) 2 he rfl hi dg hk
theorem zR.zald {x : Nat} {i : Int32} (dg : decode q.2.1 pc = .ok (.baload, 1)) (hx : zAt Y μ x 23) (hi : vp_in i (Y.2.1 x)) (h : zR Y d kc ks q (pc + 1) ls (.int (μ.1 x i.toNatClampNeg) :: st) μ o) : zR Y d kc ks q pc ls (.int i :: .ref x :: st) μ o := by
  intro l p e s m args below meth c G A b mc ms Q En hA hK hQ H locs cells slots Ls hW hl h1 h2
  obtain ⟨x1, x2, x3⟩ := hx
  have he := zW_get (Y := Y) (G := G) (b := b) (μ := μ) x1 x2
  rw [zCell_23 x3] at he
  have hk := h l p e s m args below meth c G A b mc ms Q En hA hK hQ H locs cells slots Ls hW hl h1 h2
  rw [List.map_cons, List.map_cons, zt_ref x1]
  exact va_zald En.1 En.2.1 hK.1 hW.1 (x - 1) 3 he rfl hi dg hk
theorem zR.iast {x : Nat} {i : Int32} {v : Int32} (dg : decode q.2.1 pc = .ok (.iastore, 1)) (hx : zAt Y μ x 20) (hi : vp_in i (Y.2.1 x)) (h : zR Y d kc ks q (pc + 1) ls st (sI μ x i.toNatClampNeg v) o) : zR Y d kc ks q pc ls (.int v :: .int i :: .ref x :: st) μ o := by
  intro l p e s m args below meth c G A b mc ms Q En hA hK hQ H locs cells slots Ls hW hl h1 h2
  obtain ⟨x1, x2, x3⟩ := hx
  have he := zW_get (Y := Y) (G := G) (b := b) (μ := μ) x1 x2
  rw [zCell_20 x3] at he
  rw [List.map_cons, List.map_cons, List.map_cons, zt_ref x1]
  refine W.iast En.1 En.2.1 (hW.1 _ _ he) ((hK.1.2 0 _ rfl).1 (Y.2.1 x) (fun j => .int (μ.1 x j))) (fun z => by cases z) (by show ¬ (i < 0 ∨ (arrV _ _ _).slots.size ≤ _); rw [arrV_size]; exact hi) rfl rfl dg fun H1 w1 w2 w3 => ?_
  refine h l p e s m args below meth c G A b mc ms Q En hA hK hQ H1 _ cells slots Ls (hW.upd x1 x2 rfl ?_ w2 w3 (fun p hp => zCell_of (va_up_ne _ _ hp) rfl rfl)) hl h1 h2
  rw [zCell_20 x3]
  show H1[za b x]? = some (vp_cell _ _)
  rw [w1, vp_cell_i, vp_cell_i, arrV_store]
  congr 2
  funext j
  by_cases hj : j = i.toNatClampNeg
  · subst hj
    simp [updV, upd, sI, va_up, vp_nar, narrow]
  · simp [updV, upd, sI, va_up, hj]
theorem zR.last {x : Nat} {i : Int32} {v : Int64} (dg : decode q.2.1 pc = .ok (.lastore, 1)) (hx : zAt Y μ x 21) (hi : vp_in i (Y.2.1 x)) (h : zR Y d kc ks q (pc + 1) ls st (sL μ x i.toNatClampNeg v) o) : zR Y d kc ks q pc ls (.long v :: .int i :: .ref x :: st) μ o := by
  intro l p e s m args below meth c G A b mc ms Q En hA hK hQ H locs cells slots Ls hW hl h1 h2
  obtain ⟨x1, x2, x3⟩ := hx
  have he := zW_get (Y := Y) (G := G) (b := b) (μ := μ) x1 x2
  rw [zCell_21 x3] at he
  rw [List.map_cons, List.map_cons, List.map_cons, zt_ref x1]
  refine W.last En.1 En.2.1 (hW.1 _ _ he) ((hK.1.2 1 _ rfl).1 (Y.2.1 x) (fun j => .long (μ.2.1 x j))) (fun z => by cases z) (by show ¬ (i < 0 ∨ (arrV _ _ _).slots.size ≤ _); rw [arrV_size]; exact hi) rfl rfl dg fun H1 w1 w2 w3 => ?_
  refine h l p e s m args below meth c G A b mc ms Q En hA hK hQ H1 _ cells slots Ls (hW.upd x1 x2 rfl ?_ w2 w3 (fun p hp => zCell_of rfl (va_up_ne _ _ hp) rfl)) hl h1 h2
  rw [zCell_21 x3]
  show H1[za b x]? = some (vp_cell _ _)
  rw [w1, vp_cell_l, vp_cell_l, arrV_store]
  congr 2
  funext j
  by_cases hj : j = i.toNatClampNeg
  · subst hj
    simp [updV, vp_updL, sL, va_up, vp_nar, narrow]
  · simp [updV, vp_updL, sL, va_up, hj]
theorem zR.bast {x : Nat} {i : Int32} {v : Int32} (dg : decode q.2.1 pc = .ok (.bastore, 1)) (hx : zAt Y μ x 22) (hi : vp_in i (Y.2.1 x)) (h : zR Y d kc ks q (pc + 1) ls st (sI μ x i.toNatClampNeg (vp_nar .byte v)) o) : zR Y d kc ks q pc ls (.int v :: .int i :: .ref x :: st) μ o := by
  intro l p e s m args below meth c G A b mc ms Q En hA hK hQ H locs cells slots Ls hW hl h1 h2
  obtain ⟨x1, x2, x3⟩ := hx
  have he := zW_get (Y := Y) (G := G) (b := b) (μ := μ) x1 x2
  rw [zCell_22 x3] at he
  rw [List.map_cons, List.map_cons, List.map_cons, zt_ref x1]
  refine W.bast En.1 En.2.1 (hW.1 _ _ he) ((hK.1.2 2 _ rfl).1 (Y.2.1 x) (fun j => .int (μ.1 x j))) (fun z => by cases z) (by show ¬ (i < 0 ∨ (arrV _ _ _).slots.size ≤ _); rw [arrV_size]; exact hi) rfl rfl dg fun H1 w1 w2 w3 => ?_
  refine h l p e s m args below meth c G A b mc ms Q En hA hK hQ H1 _ cells slots Ls (hW.upd x1 x2 rfl ?_ w2 w3 (fun p hp => zCell_of (va_up_ne _ _ hp) rfl rfl)) hl h1 h2
  rw [zCell_22 x3]
  show H1[za b x]? = some (vp_cell _ _)
  rw [w1, vp_cell_i, vp_cell_i, arrV_store]
  congr 2
  funext j
  by_cases hj : j = i.toNatClampNeg
  · subst hj
    simp [updV, upd, sI, va_up, vp_nar, narrow]
  · simp [updV, upd, sI, va_up, hj]
theorem zR.zast {x : Nat} {i : Int32} {v : Int32} (dg : decode q.2.1 pc = .ok (.bastore, 1)) (hx : zAt Y μ x 23) (hi : vp_in i (Y.2.1 x)) (h : zR Y d kc ks q (pc + 1) ls st (sI μ x i.toNatClampNeg (vp_nar .boolean v)) o) : zR Y d kc ks q pc ls (.int v :: .int i :: .ref x :: st) μ o := by
  intro l p e s m args below meth c G A b mc ms Q En hA hK hQ H locs cells slots Ls hW hl h1 h2
  obtain ⟨x1, x2, x3⟩ := hx
  have he := zW_get (Y := Y) (G := G) (b := b) (μ := μ) x1 x2
  rw [zCell_23 x3] at he
  rw [List.map_cons, List.map_cons, List.map_cons, zt_ref x1]
  refine W.zast En.1 En.2.1 (hW.1 _ _ he) ((hK.1.2 3 _ rfl).1 (Y.2.1 x) (fun j => .int (μ.1 x j))) (fun z => by cases z) (by show ¬ (i < 0 ∨ (arrV _ _ _).slots.size ≤ _); rw [arrV_size]; exact hi) rfl rfl dg fun H1 w1 w2 w3 => ?_
  refine h l p e s m args below meth c G A b mc ms Q En hA hK hQ H1 _ cells slots Ls (hW.upd x1 x2 rfl ?_ w2 w3 (fun p hp => zCell_of (va_up_ne _ _ hp) rfl rfl)) hl h1 h2
  rw [zCell_23 x3]
  show H1[za b x]? = some (vp_cell _ _)
  rw [w1, vp_cell_i, vp_cell_i, arrV_store]
  congr 2
  funext j
  by_cases hj : j = i.toNatClampNeg
  · subst hj
    simp [updV, upd, sI, va_up, vp_nar, narrow]
  · simp [updV, upd, sI, va_up, hj]
theorem zR.alen {x : Nat} {v : Int32} (dg : decode q.2.1 pc = .ok (.arraylength, 1)) (hx : zAt Y μ x 20 ∨ zAt Y μ x 21 ∨ zAt Y μ x 22 ∨ zAt Y μ x 23) (hv : Int32.ofNat (Y.2.1 x) = v) (h : zR Y d kc ks q (pc + 1) ls (.int v :: st) μ o) : zR Y d kc ks q pc ls (.ref x :: st) μ o := by
  intro l p e s m args below meth c G A b mc ms Q En hA hK hQ H locs cells slots Ls hW hl h1 h2
  have hk := h l p e s m args below meth c G A b mc ms Q En hA hK hQ H locs cells slots Ls hW hl h1 h2
  rcases hx with ⟨x1, x2, x3⟩ | ⟨x1, x2, x3⟩ | ⟨x1, x2, x3⟩ | ⟨x1, x2, x3⟩
  · have he := zW_get (Y := Y) (G := G) (b := b) (μ := μ) x1 x2
    rw [zCell_20 x3] at he
    rw [List.map_cons, zt_ref x1]
    exact va_alen En.1 En.2.1 hK.1 hW.1 (x - 1) 0 he rfl hv dg hk
  · have he := zW_get (Y := Y) (G := G) (b := b) (μ := μ) x1 x2
    rw [zCell_21 x3] at he
    rw [List.map_cons, zt_ref x1]
    exact va_alen En.1 En.2.1 hK.1 hW.1 (x - 1) 1 he rfl hv dg hk
  · have he := zW_get (Y := Y) (G := G) (b := b) (μ := μ) x1 x2
    rw [zCell_22 x3] at he
    rw [List.map_cons, zt_ref x1]
    exact va_alen En.1 En.2.1 hK.1 hW.1 (x - 1) 2 he rfl hv dg hk
  · have he := zW_get (Y := Y) (G := G) (b := b) (μ := μ) x1 x2
    rw [zCell_23 x3] at he
    rw [List.map_cons, zt_ref x1]
    exact va_alen En.1 En.2.1 hK.1 hW.1 (x - 1) 3 he rfl hv dg hk
end ZH

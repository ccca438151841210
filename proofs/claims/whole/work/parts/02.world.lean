/-! MY OWN: a pure memory and what it says of the heap. -/
/-- ints, longs, references (0 is null, p > 0 the p-th cell that was made), how many cells were made -/
abbrev zM : Type := (Nat → Nat → Int32) × (Nat → Nat → Int64) × (Nat → Nat → Nat) × Nat
/-- class numbers and slots, the ids of int[], long[], byte[], boolean[] -/
abbrev zG : Type := va_G × ClassId × ClassId × ClassId × ClassId
/-- the layout: what the p-th cell is (a class's number; 20 int[], 21 long[], 22 byte[], 23 boolean[]), and an array's length -/
abbrev zY : Type := (Nat → Nat) × (Nat → Nat)
def zt (ad : Nat → Nat) : Value → Value
  | .ref 0 => .null
  | .ref (p + 1) => .ref (ad (p + 1))
  | v => v
def zTy (c : Nat) : Nat → FieldType := match c with
  | 0 => tyX0
  | 1 => tyX1
  | 2 => tyX2
  | 3 => tyX3
  | 4 => tyX4
  | 5 => tyX5
  | 6 => tyX6
  | 7 => tyX7
  | 8 => tyX8
  | 9 => tyX9
  | 10 => tyX10
  | _ => tyX11
def zNf (c : Nat) : Nat := match c with
  | 0 => 13
  | 1 => 4
  | 2 => 3
  | 3 => 2
  | 4 => 4
  | 5 => 11
  | 6 => 16
  | 7 => 1
  | 8 => 6
  | 9 => 2
  | 10 => 11
  | _ => 79
def zFv (ad : Nat → Nat) (μ : zM) (p k : Nat) (ty : FieldType) : Value := match ty with
  | .long => .long (μ.2.1 p k)
  | .object _ => zt ad (.ref (μ.2.2.1 p k))
  | .array _ => zt ad (.ref (μ.2.2.1 p k))
  | _ => .int (μ.1 p k)
def zFs (ad : Nat → Nat) (μ : zM) (p c : Nat) : List Value := (List.range (zNf c)).map fun k => zFv ad μ p k (zTy c k)
def zCell (Y : zY) (G : zG) (ad : Nat → Nat) (μ : zM) (p : Nat) : va_E :=
  if Y.1 p = 20 then .inl (G.2.1, Y.2 p, .inl (μ.1 p)) else
  if Y.1 p = 21 then .inl (G.2.2.1, Y.2 p, .inr (.inl (μ.2.1 p))) else
  if Y.1 p = 22 then .inl (G.2.2.2.1, Y.2 p, .inl (μ.1 p)) else
  if Y.1 p = 23 then .inl (G.2.2.2.2, Y.2 p, .inl (μ.1 p)) else
  .inr (Y.1 p, zFs ad μ p (Y.1 p))
def zW (Y : zY) (G : zG) (ad : Nat → Nat) (μ : zM) : va_W := (List.range μ.2.2.2).map fun i => (ad (i + 1), zCell Y G ad μ (i + 1))
abbrev zTys (G : zG) : List (ClassId × FieldType) := [(G.2.1, .int), (G.2.2.1, .long), (G.2.2.2.1, .byte), (G.2.2.2.2, .boolean)]
-- reads and writes
def rI (μ : zM) (p k : Nat) : Int32 := μ.1 p k
def rL (μ : zM) (p k : Nat) : Int64 := μ.2.1 p k
def rR (μ : zM) (p k : Nat) : Nat := μ.2.2.1 p k
def sI (μ : zM) (p k : Nat) (v : Int32) : zM := (va_up μ.1 p (upd (μ.1 p) k v), μ.2)
def sL (μ : zM) (p k : Nat) (v : Int64) : zM := (μ.1, va_up μ.2.1 p (vp_updL (μ.2.1 p) k v), μ.2.2)
def sR (μ : zM) (p k : Nat) (v : Nat) : zM := (μ.1, μ.2.1, va_up μ.2.2.1 p (va_up (μ.2.2.1 p) k v), μ.2.2.2)
/-- a whole array of ints anew -/
def sA (μ : zM) (p : Nat) (f : Nat → Int32) : zM := (va_up μ.1 p f, μ.2)
/-- a new cell, all zero -/
def zNw (μ : zM) : zM := (va_up μ.1 (μ.2.2.2 + 1) (fun _ => 0), va_up μ.2.1 (μ.2.2.2 + 1) (fun _ => 0), va_up μ.2.2.1 (μ.2.2.2 + 1) (fun _ => 0), μ.2.2.2 + 1)
theorem zW_len (Y : zY) (G : zG) (ad : Nat → Nat) (μ : zM) : (zW Y G ad μ).length = μ.2.2.2 := by simp [zW]
theorem zW_get {Y : zY} {G : zG} {ad : Nat → Nat} {μ : zM} {p : Nat} (h1 : 1 ≤ p) (h2 : p ≤ μ.2.2.2) : (zW Y G ad μ)[p - 1]? = some (ad p, zCell Y G ad μ p) := by
  obtain ⟨k, rfl⟩ : ∃ k, p = k + 1 := ⟨p - 1, by omega⟩
  simp only [zW, Nat.add_sub_cancel, List.getElem?_map]
  rw [List.getElem?_range (by omega)]
  rfl
theorem zW_set {Y : zY} {G : zG} {ad : Nat → Nat} {μ μ' : zM} {p : Nat} {x : va_E} (h1 : 1 ≤ p) (h2 : p ≤ μ.2.2.2) (hn : μ'.2.2.2 = μ.2.2.2) (hx : x = zCell Y G ad μ' p) (hq : ∀ q, q ≠ p → zCell Y G ad μ' q = zCell Y G ad μ q) : (zW Y G ad μ).set (p - 1) (ad p, x) = zW Y G ad μ' := by
  subst hx
  apply List.ext_getElem?
  intro i
  by_cases hi : i = p - 1
  · subst hi
    rw [List.getElem?_set_self (by rw [zW_len]; omega), zW_get h1 (by rw [hn]; exact h2)]
  · rw [List.getElem?_set_ne (Ne.symm hi)]
    by_cases hl : i < μ.2.2.2
    · have e1 := zW_get (Y := Y) (G := G) (ad := ad) (μ := μ) (p := i + 1) (by omega) (by omega)
      have e2 := zW_get (Y := Y) (G := G) (ad := ad) (μ := μ') (p := i + 1) (by omega) (by omega)
      rw [Nat.add_sub_cancel] at e1 e2
      rw [e1, e2, hq (i + 1) (by omega)]
    · rw [List.getElem?_eq_none (by rw [zW_len]; omega), List.getElem?_eq_none (by rw [zW_len]; omega)]
theorem zFv_of {ad : Nat → Nat} {μ μ' : zM} {p k : Nat} (h1 : μ'.1 p k = μ.1 p k) (h2 : μ'.2.1 p k = μ.2.1 p k) (h3 : μ'.2.2.1 p k = μ.2.2.1 p k) (ty : FieldType) : zFv ad μ' p k ty = zFv ad μ p k ty := by
  unfold zFv
  cases ty <;> simp [h1, h2, h3]
theorem zCell_of {Y : zY} {G : zG} {ad : Nat → Nat} {μ μ' : zM} {p : Nat} (h1 : μ'.1 p = μ.1 p) (h2 : μ'.2.1 p = μ.2.1 p) (h3 : μ'.2.2.1 p = μ.2.2.1 p) : zCell Y G ad μ' p = zCell Y G ad μ p := by
  have hf : ∀ c, zFs ad μ' p c = zFs ad μ p c := fun c => List.map_congr_left fun k _ => zFv_of (by rw [h1]) (by rw [h2]) (by rw [h3]) _
  unfold zCell
  rw [h1, h2, hf]
theorem zCell_obj {Y : zY} {G : zG} {ad : Nat → Nat} {μ : zM} {p c : Nat} (h : Y.1 p = c) (hc : c < 12) : zCell Y G ad μ p = .inr (c, zFs ad μ p c) := by
  subst h
  unfold zCell
  rw [if_neg (by omega), if_neg (by omega), if_neg (by omega), if_neg (by omega)]
theorem zFs_get {ad : Nat → Nat} {μ : zM} {p c k : Nat} (hk : k < zNf c) : (zFs ad μ p c)[k]? = some (zFv ad μ p k (zTy c k)) := by
  unfold zFs
  rw [List.getElem?_map, List.getElem?_range hk]
  rfl
theorem zFs_len {ad : Nat → Nat} {μ : zM} {p c : Nat} : (zFs ad μ p c).length = zNf c := by simp [zFs]
theorem zFs_set {ad : Nat → Nat} {μ μ' : zM} {p c k : Nat} {v : Value} (hk : k < zNf c) (hv : v = zFv ad μ' p k (zTy c k)) (ho : ∀ j, j ≠ k → zFv ad μ' p j (zTy c j) = zFv ad μ p j (zTy c j)) : (zFs ad μ p c).set k v = zFs ad μ' p c := by
  subst hv
  apply List.ext_getElem?
  intro i
  by_cases hi : i = k
  · subst hi
    rw [List.getElem?_set_self (by rw [zFs_len]; exact hk), zFs_get hk]
  · rw [List.getElem?_set_ne (Ne.symm hi)]
    by_cases hl : i < zNf c
    · rw [zFs_get hl, zFs_get hl, ho i hi]
    · rw [List.getElem?_eq_none (by rw [zFs_len]; omega), List.getElem?_eq_none (by rw [zFs_len]; omega)]
/-- what holds of a class's number: its rows in the table, its fields' types -/
def zCF (c : Nat) : Prop := ∃ (C : String) (T : u_T), vwCl[c]? = some (C, T, zNf c) ∧ (∀ w ∈ u_ws C T (zNf c), w ∈ TB) ∧ (∀ k, k < zNf c → parseFieldDescriptor (T k).2.2.1 = some (zTy c k)) ∧ (∀ a, a < zNf c → ∀ b, b < zNf c → a ≠ b → (T a).2.1 ≠ (T b).2.1) ∧ c < 12
theorem zcf0 : zCF 0 := ⟨RX0, TX0, rfl, inX0, tyX0_ok, nmX0, by decide⟩
theorem zcf1 : zCF 1 := ⟨RX1, TX1, rfl, inX1, tyX1_ok, nmX1, by decide⟩
theorem zcf2 : zCF 2 := ⟨RX2, TX2, rfl, inX2, tyX2_ok, nmX2, by decide⟩
theorem zcf3 : zCF 3 := ⟨RX3, TX3, rfl, inX3, tyX3_ok, nmX3, by decide⟩
theorem zcf4 : zCF 4 := ⟨RX4, TX4, rfl, inX4, tyX4_ok, nmX4, by decide⟩
theorem zcf5 : zCF 5 := ⟨RX5, TX5, rfl, inX5, tyX5_ok, nmX5, by decide⟩
theorem zcf6 : zCF 6 := ⟨RX6, TX6, rfl, inX6, tyX6_ok, nmX6, by decide⟩
theorem zcf7 : zCF 7 := ⟨RX7, TX7, rfl, inX7, tyX7_ok, nmX7, by decide⟩
theorem zcf8 : zCF 8 := ⟨RX8, TX8, rfl, inX8, tyX8_ok, nmX8, by decide⟩
theorem zcf9 : zCF 9 := ⟨RX9, TX9, rfl, inX9, tyX9_ok, nmX9, by decide⟩
theorem zcf10 : zCF 10 := ⟨RX10, TX10, rfl, inX10, tyX10_ok, nmX10, by decide⟩
theorem zcf11 : zCF 11 := ⟨RX11, TX11, rfl, inX11, tyX11_ok, nmX11, by decide⟩
/-- a method: its name, bytes, locals, what it returns -/
abbrev zMI : Type := MethodName × ByteArray × Nat × Option FieldType
/-- the machine at a method's body -/
def zEn (p : Program) (s : State) (m : MethodId) (args : Array Value) (meth : Method) (c : Code) (q : zMI) : Prop :=
  p.tables.exec = Jvm.exec ∧ c.code = q.2.1 ∧ c.maxLocals = q.2.2.1 ∧ s.vm.findClass q.1.cls = some m.cls ∧ (∀ w ∈ TB, w.before args s = true) ∧ meth.sig.returnType = q.2.2.2 ∧ meth.locks = false ∧ meth.name = q.1.name
def zRm (d mc ms : Nat) : Room := { frames := d, cells := mc, slots := ms, locals := 41 * d + 32 }
def zLs (ad : Nat → Nat) (ls : List (Nat × Value)) : List (Nat × Value) := ls.map fun q => (q.1, zt ad q.2)
/-- the heap is as the memory says -/
def zWd (Y : zY) (G : zG) (A : Nat → Prop) (s : State) (ad : Nat → Nat) (μ : zM) (H : Heap) (locs : List Loc) : Prop :=
  va_P G.1 vwCl (zW Y G ad μ) H ∧ va_D A (zW Y G ad μ) ∧ va_S A s.heap H locs
def zAd (ad0 : Nat → Nat) (n0 : Nat) (ad : Nat → Nat) (μ : zM) : Prop := n0 ≤ μ.2.2.2 ∧ ∀ i, i ≤ n0 → ad i = ad0 i
/-- the return instruction for an outcome -/
def zRi (r : Option Value) (i : Instr) : Prop := match r with
  | none => i = .return_
  | some (.int _) => i = .ireturn
  | some (.long _) => i = .lreturn
  | some (.ref _) => i = .areturn
  | _ => False
/-- from here the method comes to its end with o; at most kc cells of ks slots are made on the way -/
def zR (Y : zY) (d kc ks : Nat) (q : zMI) (pc : Nat) (ls : List (Nat × Value)) (st : List Value) (μ : zM) (o : Option Value × zM) : Prop :=
  ∀ (l : Launch) (p : Program) (e : Env) (s : State) (m : MethodId) (args : Array Value) (below : List Frame) (meth : Method) (c : Code) (G : zG) (A : Nat → Prop) (ad0 : Nat → Nat) (n0 mc ms : Nat) (Q : State → Prop),
    zEn p s m args meth c q → (∀ x, s.heap.size ≤ x → A x) → va_K G.1 vwCl (zTys G) s →
    (∀ (pc' : Nat) (Ls' : Array Slot) (ad : Nat → Nat) (H : Heap) (locs : List Loc) (i : Instr), decode q.2.1 pc' = .ok (i, 1) → zRi o.1 i → (∀ ty v, q.2.2.2 = some ty → o.1 = some (.int v) → narrow ty (.int v) = .int v) → zWd Y G A s ad o.2 H locs → zAd ad0 n0 ad o.2 →
      W p l e (zRm d mc ms) s m args below meth c H locs mc ms Q (F0 m pc' Ls' (o.1.toList.map (zt ad)))) →
    ∀ (ad : Nat → Nat) (H : Heap) (locs : List Loc) (cells slots : Nat) (Ls : Array Slot), zWd Y G A s ad μ H locs → zAd ad0 n0 ad μ → lv_has Ls q.2.2.1 (zLs ad ls) → cells + kc ≤ mc → slots + ks ≤ ms →
      W p l e (zRm d mc ms) s m args below meth c H locs cells slots Q (F0 m pc Ls (st.map (zt ad)))
/-- a method's end: what it answers, the heap as the new memory says, nothing else changed -/
def zQ (Y : zY) (G : zG) (A : Nat → Prop) (ad0 : Nat → Nat) (n0 : Nat) (o : Option Value × zM) : Array Value → State → Outcome → State → Prop := fun _ st oc t =>
  ∃ ad, oc = .returned (o.1.map (zt ad)) ∧ zAd ad0 n0 ad o.2 ∧ va_P G.1 vwCl (zW Y G ad o.2) t.heap ∧ va_K G.1 vwCl (zTys G) t ∧ va_D A (zW Y G ad o.2) ∧ va_F A st t
/-- a call of q on av over the memory μ comes back with o -/
def zC (Y : zY) (d kc ks : Nat) (q : zMI) (av : List Value) (μ : zM) (o : Option Value × zM) : Prop :=
  ∀ (l : Launch) (G : zG) (ad : Nat → Nat) (sz : Nat), Met l q.1 (Cond.code q.1 q.2.1 q.2.2.1 q.2.2.2 :: TB) (zRm d kc ks)
    (va_Pc (av.map (zt ad)) (fun U => U.heap.size = sz ∧ va_P G.1 vwCl (zW Y G ad μ) U.heap ∧ va_K G.1 vwCl (zTys G) U ∧ va_D (fun _ => True) (zW Y G ad μ)))
    (zQ Y G (va_A (zW Y G ad μ) sz) ad μ.2.2.2 o) kc ks (va_A (zW Y G ad μ) sz)

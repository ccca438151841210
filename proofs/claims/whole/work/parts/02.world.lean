/-! MY OWN: a pure memory and what it says of the heap. -/
/-- ints, longs, references (0 is null, p > 0 the p-th cell that was made), how many cells were made -/
abbrev zM : Type := (Nat → Nat → Int32) × (Nat → Nat → Int64) × (Nat → Nat → Nat) × Nat
/-- type numbers and slots, the ids of int[], long[], byte[], boolean[] -/
abbrev zG : Type := va_G × ClassId × ClassId × ClassId × ClassId
/-- the layout: what the p-th cell is (a type's number; 20 int[], 21 long[], 22 byte[], 23 boolean[]), and an array's length; the law's script -/
abbrev zY : Type := (Nat → Nat) × (Nat → Nat) × Nat × (Nat → Int32)
/-- where cells stand: ours one behind another, behind the first number; String constants (1000, 1001) and their bytes (1010, 1011) where the tables say -/
abbrev zB : Type := Nat × (Nat → Nat) × (Nat → Nat)
def za (b : zB) (p : Nat) : Nat := if p < 1000 then b.1 + p else if p < 1010 then b.2.1 (p - 1000) else b.2.2 (p - 1010)
def zt (b : zB) : Value → Value
  | .ref 0 => .null
  | .ref (p + 1) => .ref (za b (p + 1))
  | v => v
def zTy (c : Nat) : Nat → FieldType := match c with
  | 0 => tyX0
  | 1 => tyX1
  | 2 => tyX2
  | 3 => tyX3
  | 4 => tyX4
  | 5 => tyX5
  | 6 => tyX6
  | 7 => tyX7
  | 8 => tyX8
  | 9 => tyX9
  | 10 => tyX10
  | _ => tyX11
def zNf (c : Nat) : Nat := match c with
  | 0 => 13
  | 1 => 4
  | 2 => 3
  | 3 => 2
  | 4 => 4
  | 5 => 11
  | 6 => 16
  | 7 => 1
  | 8 => 6
  | 9 => 2
  | 10 => 11
  | _ => 79
def zFv (b : zB) (μ : zM) (p k : Nat) (ty : FieldType) : Value := match ty with
  | .long => .long (μ.2.1 p k)
  | .object _ => zt b (.ref (μ.2.2.1 p k))
  | .array _ => zt b (.ref (μ.2.2.1 p k))
  | _ => .int (μ.1 p k)
def zFs (b : zB) (μ : zM) (p c : Nat) : List Value := (List.range (zNf c)).map fun k => zFv b μ p k (zTy c k)
def zCell (Y : zY) (G : zG) (b : zB) (μ : zM) (p : Nat) : va_E :=
  if Y.1 p = 20 then .inl (G.2.1, Y.2.1 p, .inl (μ.1 p)) else
  if Y.1 p = 21 then .inl (G.2.2.1, Y.2.1 p, .inr (.inl (μ.2.1 p))) else
  if Y.1 p = 22 then .inl (G.2.2.2.1, Y.2.1 p, .inl (μ.1 p)) else
  if Y.1 p = 23 then .inl (G.2.2.2.2, Y.2.1 p, .inl (μ.1 p)) else
  .inr (Y.1 p, zFs b μ p (Y.1 p))
def zW (Y : zY) (G : zG) (b : zB) (μ : zM) : va_W := (List.range μ.2.2.2).map fun i => (za b (i + 1), zCell Y G b μ (i + 1))
abbrev zTys (G : zG) : List (ClassId × FieldType) := [(G.2.1, .int), (G.2.2.1, .long), (G.2.2.2.1, .byte), (G.2.2.2.2, .boolean)]
-- reads and writes
def rI (μ : zM) (p k : Nat) : Int32 := μ.1 p k
def rL (μ : zM) (p k : Nat) : Int64 := μ.2.1 p k
def rR (μ : zM) (p k : Nat) : Nat := μ.2.2.1 p k
def sI (μ : zM) (p k : Nat) (v : Int32) : zM := (va_up μ.1 p (upd (μ.1 p) k v), μ.2)
def sL (μ : zM) (p k : Nat) (v : Int64) : zM := (μ.1, va_up μ.2.1 p (vp_updL (μ.2.1 p) k v), μ.2.2)
def sR (μ : zM) (p k : Nat) (v : Nat) : zM := (μ.1, μ.2.1, va_up μ.2.2.1 p (va_up (μ.2.2.1 p) k v), μ.2.2.2)
/-- a whole array of ints anew -/
def sA (μ : zM) (p : Nat) (f : Nat → Int32) : zM := (va_up μ.1 p f, μ.2)
/-- a new cell, all zero -/
def zNw (μ : zM) : zM := (va_up μ.1 (μ.2.2.2 + 1) (fun _ => 0), va_up μ.2.1 (μ.2.2.2 + 1) (fun _ => 0), va_up μ.2.2.1 (μ.2.2.2 + 1) (fun _ => 0), μ.2.2.2 + 1)
theorem zW_len (Y : zY) (G : zG) (b : zB) (μ : zM) : (zW Y G b μ).length = μ.2.2.2 := by simp [zW]
theorem zW_get {Y : zY} {G : zG} {b : zB} {μ : zM} {p : Nat} (h1 : 1 ≤ p) (h2 : p ≤ μ.2.2.2) : (zW Y G b μ)[p - 1]? = some (za b p, zCell Y G b μ p) := by
  obtain ⟨k, rfl⟩ : ∃ k, p = k + 1 := ⟨p - 1, by omega⟩
  simp only [zW, Nat.add_sub_cancel, List.getElem?_map]
  rw [List.getElem?_range (by omega)]
  rfl
theorem zW_set {Y : zY} {G : zG} {b : zB} {μ μ' : zM} {p : Nat} {x : va_E} (h1 : 1 ≤ p) (h2 : p ≤ μ.2.2.2) (hn : μ'.2.2.2 = μ.2.2.2) (hx : x = zCell Y G b μ' p) (hq : ∀ q, q ≠ p → zCell Y G b μ' q = zCell Y G b μ q) : (zW Y G b μ).set (p - 1) (za b p, x) = zW Y G b μ' := by
  subst hx
  apply List.ext_getElem?
  intro i
  by_cases hi : i = p - 1
  · subst hi
    rw [List.getElem?_set_self (by rw [zW_len]; omega), zW_get h1 (by rw [hn]; exact h2)]
  · rw [List.getElem?_set_ne (Ne.symm hi)]
    by_cases hl : i < μ.2.2.2
    · have e1 := zW_get (Y := Y) (G := G) (b := b) (μ := μ) (p := i + 1) (by omega) (by omega)
      have e2 := zW_get (Y := Y) (G := G) (b := b) (μ := μ') (p := i + 1) (by omega) (by omega)
      rw [Nat.add_sub_cancel] at e1 e2
      rw [e1, e2, hq (i + 1) (by omega)]
    · rw [List.getElem?_eq_none (by rw [zW_len]; omega), List.getElem?_eq_none (by rw [zW_len]; omega)]
theorem zFv_of {b : zB} {μ μ' : zM} {p k : Nat} (h1 : μ'.1 p k = μ.1 p k) (h2 : μ'.2.1 p k = μ.2.1 p k) (h3 : μ'.2.2.1 p k = μ.2.2.1 p k) (ty : FieldType) : zFv b μ' p k ty = zFv b μ p k ty := by
  unfold zFv
  cases ty <;> simp [h1, h2, h3]
theorem zCell_of {Y : zY} {G : zG} {b : zB} {μ μ' : zM} {p : Nat} (h1 : μ'.1 p = μ.1 p) (h2 : μ'.2.1 p = μ.2.1 p) (h3 : μ'.2.2.1 p = μ.2.2.1 p) : zCell Y G b μ' p = zCell Y G b μ p := by
  have hf : ∀ c, zFs b μ' p c = zFs b μ p c := fun c => List.map_congr_left fun k _ => zFv_of (by rw [h1]) (by rw [h2]) (by rw [h3]) _
  unfold zCell
  rw [h1, h2, hf]
theorem zCell_obj {Y : zY} {G : zG} {b : zB} {μ : zM} {p c : Nat} (h : Y.1 p = c) (hc : c < 12) : zCell Y G b μ p = .inr (c, zFs b μ p c) := by
  subst h
  unfold zCell
  rw [if_neg (by omega), if_neg (by omega), if_neg (by omega), if_neg (by omega)]
theorem zFs_get {b : zB} {μ : zM} {p c k : Nat} (hk : k < zNf c) : (zFs b μ p c)[k]? = some (zFv b μ p k (zTy c k)) := by
  unfold zFs
  rw [List.getElem?_map, List.getElem?_range hk]
  rfl
theorem zFs_len {b : zB} {μ : zM} {p c : Nat} : (zFs b μ p c).length = zNf c := by simp [zFs]
theorem zFs_set {b : zB} {μ μ' : zM} {p c k : Nat} {v : Value} (hk : k < zNf c) (hv : v = zFv b μ' p k (zTy c k)) (ho : ∀ j, j ≠ k → zFv b μ' p j (zTy c j) = zFv b μ p j (zTy c j)) : (zFs b μ p c).set k v = zFs b μ' p c := by
  subst hv
  apply List.ext_getElem?
  intro i
  by_cases hi : i = k
  · subst hi
    rw [List.getElem?_set_self (by rw [zFs_len]; exact hk), zFs_get hk]
  · rw [List.getElem?_set_ne (Ne.symm hi)]
    by_cases hl : i < zNf c
    · rw [zFs_get hl, zFs_get hl, ho i hi]
    · rw [List.getElem?_eq_none (by rw [zFs_len]; omega), List.getElem?_eq_none (by rw [zFs_len]; omega)]
/-- what holds of a type's number: its rows in the table, its fields' types -/
def zCF (c : Nat) : Prop := ∃ (C : String) (T : u_T), vwCl[c]? = some (C, T, zNf c) ∧ (∀ w ∈ u_ws C T (zNf c), w ∈ TB) ∧ (∀ k, k < zNf c → parseFieldDescriptor (T k).2.2.1 = some (zTy c k)) ∧ (∀ a, a < zNf c → ∀ b, b < zNf c → a ≠ b → (T a).2.1 ≠ (T b).2.1) ∧ c < 12
theorem zcf0 : zCF 0 := ⟨RX0, TX0, rfl, inX0, tyX0_ok, nmX0, by decide⟩
theorem zcf1 : zCF 1 := ⟨RX1, TX1, rfl, inX1, tyX1_ok, nmX1, by decide⟩
theorem zcf2 : zCF 2 := ⟨RX2, TX2, rfl, inX2, tyX2_ok, nmX2, by decide⟩
theorem zcf3 : zCF 3 := ⟨RX3, TX3, rfl, inX3, tyX3_ok, nmX3, by decide⟩
theorem zcf4 : zCF 4 := ⟨RX4, TX4, rfl, inX4, tyX4_ok, nmX4, by decide⟩
theorem zcf5 : zCF 5 := ⟨RX5, TX5, rfl, inX5, tyX5_ok, nmX5, by decide⟩
theorem zcf6 : zCF 6 := ⟨RX6, TX6, rfl, inX6, tyX6_ok, nmX6, by decide⟩
theorem zcf7 : zCF 7 := ⟨RX7, TX7, rfl, inX7, tyX7_ok, nmX7, by decide⟩
theorem zcf8 : zCF 8 := ⟨RX8, TX8, rfl, inX8, tyX8_ok, nmX8, by decide⟩
theorem zcf9 : zCF 9 := ⟨RX9, TX9, rfl, inX9, tyX9_ok, nmX9, by decide⟩
theorem zcf10 : zCF 10 := ⟨RX10, TX10, rfl, inX10, tyX10_ok, nmX10, by decide⟩
theorem zcf11 : zCF 11 := ⟨RX11, TX11, rfl, inX11, tyX11_ok, nmX11, by decide⟩
/-- a method: its name, bytes, locals, what it returns -/
abbrev zMI : Type := MethodName × ByteArray × Nat × Option FieldType
/-- the machine at a method's body -/
def zEn (p : Program) (s : State) (m : MethodId) (args : Array Value) (meth : Method) (c : Code) (q : zMI) : Prop :=
  p.tables.exec = Jvm.exec ∧ c.code = q.2.1 ∧ c.maxLocals = q.2.2.1 ∧ s.vm.findClass q.1.cls = some m.cls ∧ (∀ w ∈ TB, w.before args s = true) ∧ meth.sig.returnType = q.2.2.2 ∧ meth.locks = false ∧ (q.1.name = "<init>" → meth.name = "<init>")
def zRm (d mc ms : Nat) : Room := { frames := d, cells := mc, slots := ms, locals := 41 * d + 32 }
def zLs (b : zB) (ls : List (Nat × Value)) : List (Nat × Value) := ls.map fun q => (q.1, zt b q.2)
/-- links between nest mates -/
def zNl : List (String × Nat × MethodName × String) := [("BreathRoad", 11, ⟨"BreathRoad$Tape", "<init>", "()V"⟩, "BreathRoad"), ("BreathRoad", 18, ⟨"BreathRoad$State", "<init>", "()V"⟩, "BreathRoad"), ("BreathRoad", 25, ⟨"BreathRoad$History", "<init>", "()V"⟩, "BreathRoad"), ("BreathRoad", 34, ⟨"BreathRoad$Road", "<init>", "()V"⟩, "BreathRoad"), ("BreathRoad$Road", 60, ⟨"BreathRoad$Sums", "<init>", "()V"⟩, "BreathRoad"), ("BreathRoad", 53, ⟨"BreathRoad$Faces", "<init>", "()V"⟩, "BreathRoad"), ("BreathRoad", 60, ⟨"BreathRoad$Image", "<init>", "()V"⟩, "BreathRoad"), ("BreathRoad$Reader", 169, ⟨"BreathRoad", "setAt", "([III)V"⟩, "BreathRoad"), ("BreathRoad$Road", 81, ⟨"BreathRoad", "valueAt", "([II)I"⟩, "BreathRoad"), ("BreathRoad$Sums", 37, ⟨"BreathRoad", "valueAt", "([II)I"⟩, "BreathRoad"), ("BreathRoad$State", 32, ⟨"BreathRoad", "valueAt", "([II)I"⟩, "BreathRoad"), ("BreathRoad$Judge", 54, ⟨"BreathRoad", "setAt", "([III)V"⟩, "BreathRoad"), ("BreathRoad$Judge", 86, ⟨"BreathRoad", "valueAt", "([II)I"⟩, "BreathRoad"), ("BreathRoad$Judge", 72, ⟨"BreathRoad", "within", "(III)I"⟩, "BreathRoad"), ("BreathRoad$Chooser", 55, ⟨"BreathRoad", "setAt", "([JIJ)V"⟩, "BreathRoad"), ("BreathRoad$Chooser", 59, ⟨"BreathRoad", "valueAt", "([JI)J"⟩, "BreathRoad"), ("BreathRoad$Chooser", 142, ⟨"BreathRoad", "setAt", "([III)V"⟩, "BreathRoad"), ("BreathRoad$Chooser", 152, ⟨"BreathRoad", "valueAt", "([II)I"⟩, "BreathRoad"), ("BreathRoad$Faces", 43, ⟨"BreathRoad", "isSecond", "(I)Z"⟩, "BreathRoad"), ("BreathRoad$Faces", 46, ⟨"BreathRoad", "valueAt", "([II)I"⟩, "BreathRoad"), ("BreathRoad$State", 46, ⟨"BreathRoad", "within", "(III)I"⟩, "BreathRoad"), ("BreathRoad$State", 36, ⟨"BreathRoad", "setAt", "([III)V"⟩, "BreathRoad"), ("BreathRoad$Image", 73, ⟨"BreathRoad", "isSecond", "(I)Z"⟩, "BreathRoad")]
def zNest (U : State) : Prop := ∀ x ∈ zNl, va_Nw (.methodLinkNest x.1 x.2.1 x.2.2.1 x.2.2.2) U
/-- the two String constants of Reader -/
def zS0 : String := "tunnel gap at weighs holder breath laughs thinks gives worth tires seen fine held long made last beaten if or and not all min max "
def zS1 : String := ";()[],+-*/%<>="
def zSl : List Nat := [130, 14]
def zSb : List (List Int32) := [[116, 117, 110, 110, 101, 108, 32, 103, 97, 112, 32, 97, 116, 32, 119, 101, 105, 103, 104, 115, 32, 104, 111, 108, 100, 101, 114, 32, 98, 114, 101, 97, 116, 104, 32, 108, 97, 117, 103, 104, 115, 32, 116, 104, 105, 110, 107, 115, 32, 103, 105, 118, 101, 115, 32, 119, 111, 114, 116, 104, 32, 116, 105, 114, 101, 115, 32, 115, 101, 101, 110, 32, 102, 105, 110, 101, 32, 104, 101, 108, 100, 32, 108, 111, 110, 103, 32, 109, 97, 100, 101, 32, 108, 97, 115, 116, 32, 98, 101, 97, 116, 101, 110, 32, 105, 102, 32, 111, 114, 32, 97, 110, 100, 32, 110, 111, 116, 32, 97, 108, 108, 32, 109, 105, 110, 32, 109, 97, 120, 32], [59, 40, 41, 91, 93, 44, 43, 45, 42, 47, 37, 60, 62, 61]]
/-- what the static that String.checkIndex hands on holds: null, or what stands at 1099 -/
def zFm (Y : zY) : Nat := if Y.2.2.2 9999 = 0 then 0 else 1099
def zZ (Y : zY) (b : zB) (A : Nat → Prop) (U : State) (H : Heap) : Prop := vk_S 2 zSl zSb b.2.1 b.2.2 A U H ∧ vk_R "BreathRoad$Reader" 48 zS0 (b.2.1 0) U ∧ vk_R "BreathRoad$Reader" 109 zS1 (b.2.1 1) U ∧ va_Z "java/lang/String" "COMPACT_STRINGS" "Z" (.int 1) A U H ∧ va_Z "jdk/internal/util/Preconditions" "SIOOBE_FORMATTER" "Ljava/util/function/BiFunction;" (zt b (.ref (zFm Y))) A U H
/-- the law's script stands where it stood (1100) -/
def zX (Y : zY) (b : zB) (A : Nat → Prop) (U : State) (H : Heap) : Prop := va_X (b.2.2 90) Y.2.2.1 Y.2.2.2 U H ∧ b.2.2 90 < H.size ∧ ¬ A (b.2.2 90)
/-- what the tables say: classes, arrays, nest mates, String constants; the script -/
def zKK (Y : zY) (G : zG) (b : zB) (A : Nat → Prop) (U : State) : Prop := va_K G.1 vwCl (zTys G) U ∧ zNest U ∧ zZ Y b A U U.heap ∧ zX Y b A U U.heap
/-- the heap is as the memory says -/
def zWd (Y : zY) (G : zG) (A : Nat → Prop) (s : State) (b : zB) (μ : zM) (H : Heap) (locs : List Loc) : Prop :=
  va_P G.1 vwCl (zW Y G b μ) H ∧ va_D A (zW Y G b μ) ∧ va_S A s.heap H locs ∧ H.size = b.1 + μ.2.2.2 + 1
/-- the return instruction for an outcome -/
def zRi (r : Option Value) (i : Instr) : Prop := match r with
  | none => i = .return_
  | some (.int _) => i = .ireturn
  | some (.long _) => i = .lreturn
  | some (.ref _) => i = .areturn
  | _ => False
/-- from here the method comes to its end with o; at most kc cells of ks slots are made on the way -/
def zR (Y : zY) (d kc ks : Nat) (q : zMI) (pc : Nat) (ls : List (Nat × Value)) (st : List Value) (μ : zM) (o : Option Value × zM) : Prop :=
  ∀ (l : Launch) (p : Program) (e : Env) (s : State) (m : MethodId) (args : Array Value) (below : List Frame) (meth : Method) (c : Code) (G : zG) (A : Nat → Prop) (b : zB) (mc ms : Nat) (Q : State → Prop),
    zEn p s m args meth c q → (∀ x, s.heap.size ≤ x → A x) → zKK Y G b A s →
    (∀ (pc' : Nat) (Ls' : Array Slot) (H : Heap) (locs : List Loc) (i : Instr), decode q.2.1 pc' = .ok (i, 1) → zRi o.1 i → (∀ ty v, q.2.2.2 = some ty → o.1 = some (.int v) → narrow ty (.int v) = .int v) → zWd Y G A s b o.2 H locs →
      W p l e (zRm d mc ms) s m args below meth c H locs mc ms Q (F0 m pc' Ls' (o.1.toList.map (zt b)))) →
    ∀ (H : Heap) (locs : List Loc) (cells slots : Nat) (Ls : Array Slot), zWd Y G A s b μ H locs → lv_has Ls q.2.2.1 (zLs b ls) → cells + kc ≤ mc → slots + ks ≤ ms →
      W p l e (zRm d mc ms) s m args below meth c H locs cells slots Q (F0 m pc Ls (st.map (zt b)))
/-- a method's end: what it answers, the heap as the new memory says, nothing else changed -/
def zQ (Y : zY) (G : zG) (A : Nat → Prop) (b : zB) (o : Option Value × zM) : Array Value → State → Outcome → State → Prop := fun _ st oc t =>
  oc = .returned (o.1.map (zt b)) ∧ va_P G.1 vwCl (zW Y G b o.2) t.heap ∧ va_D A (zW Y G b o.2) ∧ va_F A st t ∧ t.heap.size = b.1 + o.2.2.2.2 + 1
/-- a call of q on av over the memory μ comes back with o -/
def zC (Y : zY) (d kc ks : Nat) (q : zMI) (av : List Value) (μ : zM) (o : Option Value × zM) : Prop :=
  ∀ (l : Launch) (G : zG) (b : zB), Met l q.1 (Cond.code q.1 q.2.1 q.2.2.1 q.2.2.2 :: TB) (zRm d kc ks)
    (va_Pc (av.map (zt b)) (fun U => U.heap.size = b.1 + μ.2.2.2 + 1 ∧ va_P G.1 vwCl (zW Y G b μ) U.heap ∧ zKK Y G b (va_A (zW Y G b μ) (b.1 + μ.2.2.2 + 1)) U ∧ va_D (fun _ => True) (zW Y G b μ)))
    (zQ Y G (va_A (zW Y G b μ) (b.1 + μ.2.2.2 + 1)) b o) kc ks (va_A (zW Y G b μ) (b.1 + μ.2.2.2 + 1))

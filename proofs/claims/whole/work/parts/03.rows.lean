/-! MY OWN: a row an instruction, over the pure memory. -/
theorem zt_cat (b : zB) (v : Value) : (zt b v).category = v.category := by
  unfold zt
  split <;> rfl
theorem zLs_get {b : zB} {ls : List (Nat × Value)} {j i : Nat} {v : Value} (h : ls[j]? = some (i, v)) : (zLs b ls)[j]? = some (i, zt b v) := by
  unfold zLs
  rw [List.getElem?_map, h]
  rfl
theorem zLs_flt1 (b : zB) (ls : List (Nat × Value)) (i : Nat) : (zLs b ls).filter (fun q => !(q.1 == i) && !(q.1 + 1 == i && q.2.category == 2)) = zLs b (ls.filter (fun q => !(q.1 == i) && !(q.1 + 1 == i && q.2.category == 2))) := by
  unfold zLs
  rw [List.filter_map]
  congr 2
  funext q
  simp only [Function.comp, zt_cat]
theorem zLs_flt2 (b : zB) (ls : List (Nat × Value)) (i : Nat) : (zLs b ls).filter (fun q => !(q.1 == i) && (!(q.1 == i + 1) && !(q.1 + 1 == i && q.2.category == 2))) = zLs b (ls.filter (fun q => !(q.1 == i) && (!(q.1 == i + 1) && !(q.1 + 1 == i && q.2.category == 2)))) := by
  unfold zLs
  rw [List.filter_map]
  congr 2
  funext q
  simp only [Function.comp, zt_cat]
theorem zt_sum (b : zB) (st : List Value) : ((st.map (zt b)).map fun v => v.category).sum = (st.map fun v => v.category).sum := by
  rw [List.map_map]
  congr 2
  funext v
  exact zt_cat b v
section ZR
variable {Y : zY} {d kc ks : Nat} {q : zMI} {pc : Nat} {ls : List (Nat × Value)} {st : List Value} {μ : zM} {o : Option Value × zM}
theorem zR.iconst {n : Int} {v : Int32} (dg : decode q.2.1 pc = .ok (.iconst n, 1)) (hv : Int32.ofInt n = v) (h : zR Y d kc ks q (pc + 1) ls (.int v :: st) μ o) : zR Y d kc ks q pc ls st μ o := by
  intro l p e s m args below meth c G A b mc ms Q En hA hK hQ H locs cells slots Ls hW hl h1 h2
  exact lv_iconst En.1 En.2.1 dg hv (h l p e s m args below meth c G A b mc ms Q En hA hK hQ H locs cells slots Ls hW hl h1 h2)
theorem zR.bipush {n : Int} {v : Int32} (dg : decode q.2.1 pc = .ok (.bipush n, 2)) (hv : (Int8.ofInt n).toInt32 = v) (h : zR Y d kc ks q (pc + 2) ls (.int v :: st) μ o) : zR Y d kc ks q pc ls st μ o := by
  intro l p e s m args below meth c G A b mc ms Q En hA hK hQ H locs cells slots Ls hW hl h1 h2
  exact lv_bipush En.1 En.2.1 dg hv (h l p e s m args below meth c G A b mc ms Q En hA hK hQ H locs cells slots Ls hW hl h1 h2)
theorem zR.sipush {n : Int} {v : Int32} (dg : decode q.2.1 pc = .ok (.sipush n, 3)) (hv : (Int16.ofInt n).toInt32 = v) (h : zR Y d kc ks q (pc + 3) ls (.int v :: st) μ o) : zR Y d kc ks q pc ls st μ o := by
  intro l p e s m args below meth c G A b mc ms Q En hA hK hQ H locs cells slots Ls hW hl h1 h2
  exact lv_sipush En.1 En.2.1 dg hv (h l p e s m args below meth c G A b mc ms Q En hA hK hQ H locs cells slots Ls hW hl h1 h2)
theorem zR.lconst {n : Fin 2} {v : Int64} (dg : decode q.2.1 pc = .ok (.lconst n, 1)) (hv : Int64.ofNat (n : Nat) = v) (h : zR Y d kc ks q (pc + 1) ls (.long v :: st) μ o) : zR Y d kc ks q pc ls st μ o := by
  intro l p e s m args below meth c G A b mc ms Q En hA hK hQ H locs cells slots Ls hW hl h1 h2
  exact lv_lconst En.1 En.2.1 dg hv (h l p e s m args below meth c G A b mc ms Q En hA hK hQ H locs cells slots Ls hW hl h1 h2)
theorem zR.ldc {i : Nat} {v : Int32} (dg : decode q.2.1 pc = .ok (.ldc i, 2)) (hw : Cond.constant q.1.cls i v ∈ TB) (h : zR Y d kc ks q (pc + 2) ls (.int v :: st) μ o) : zR Y d kc ks q pc ls st μ o := by
  intro l p e s m args below meth c G A b mc ms Q En hA hK hQ H locs cells slots Ls hW hl h1 h2
  exact lv_ldc En.1 En.2.1 En.2.2.2.1 (En.2.2.2.2.1 _ hw) dg (h l p e s m args below meth c G A b mc ms Q En hA hK hQ H locs cells slots Ls hW hl h1 h2)
theorem zR.ldcw {i : Nat} {v : Int32} (dg : decode q.2.1 pc = .ok (.ldc_w i, 3)) (hw : Cond.constant q.1.cls i v ∈ TB) (h : zR Y d kc ks q (pc + 3) ls (.int v :: st) μ o) : zR Y d kc ks q pc ls st μ o := by
  intro l p e s m args below meth c G A b mc ms Q En hA hK hQ H locs cells slots Ls hW hl h1 h2
  exact lv_ldcw En.1 En.2.1 En.2.2.2.1 (En.2.2.2.2.1 _ hw) dg (h l p e s m args below meth c G A b mc ms Q En hA hK hQ H locs cells slots Ls hW hl h1 h2)
theorem zR.ldc2 {i : Nat} {v : Int64} (dg : decode q.2.1 pc = .ok (.ldc2_w i, 3)) (hw : Cond.constantLong q.1.cls i v ∈ TB) (h : zR Y d kc ks q (pc + 3) ls (.long v :: st) μ o) : zR Y d kc ks q pc ls st μ o := by
  intro l p e s m args below meth c G A b mc ms Q En hA hK hQ H locs cells slots Ls hW hl h1 h2
  exact lv_ldc2 En.1 En.2.1 En.2.2.2.1 (En.2.2.2.2.1 _ hw) dg (h l p e s m args below meth c G A b mc ms Q En hA hK hQ H locs cells slots Ls hW hl h1 h2)
theorem zR.iadd {a y : Int32} (dg : decode q.2.1 pc = .ok (.iadd, 1)) (h : zR Y d kc ks q (pc + 1) ls (.int (a + y) :: st) μ o) : zR Y d kc ks q pc ls (.int y :: .int a :: st) μ o := by
  intro l p e s m args below meth c G A b mc ms Q En hA hK hQ H locs cells slots Ls hW hl h1 h2
  exact lv_iadd En.1 En.2.1 dg (h l p e s m args below meth c G A b mc ms Q En hA hK hQ H locs cells slots Ls hW hl h1 h2)
theorem zR.isub {a y : Int32} (dg : decode q.2.1 pc = .ok (.isub, 1)) (h : zR Y d kc ks q (pc + 1) ls (.int (a - y) :: st) μ o) : zR Y d kc ks q pc ls (.int y :: .int a :: st) μ o := by
  intro l p e s m args below meth c G A b mc ms Q En hA hK hQ H locs cells slots Ls hW hl h1 h2
  exact lv_isub En.1 En.2.1 dg (h l p e s m args below meth c G A b mc ms Q En hA hK hQ H locs cells slots Ls hW hl h1 h2)
theorem zR.imul {a y : Int32} (dg : decode q.2.1 pc = .ok (.imul, 1)) (h : zR Y d kc ks q (pc + 1) ls (.int (a * y) :: st) μ o) : zR Y d kc ks q pc ls (.int y :: .int a :: st) μ o := by
  intro l p e s m args below meth c G A b mc ms Q En hA hK hQ H locs cells slots Ls hW hl h1 h2
  exact lv_imul En.1 En.2.1 dg (h l p e s m args below meth c G A b mc ms Q En hA hK hQ H locs cells slots Ls hW hl h1 h2)
theorem zR.iand {a y : Int32} (dg : decode q.2.1 pc = .ok (.iand, 1)) (h : zR Y d kc ks q (pc + 1) ls (.int (a &&& y) :: st) μ o) : zR Y d kc ks q pc ls (.int y :: .int a :: st) μ o := by
  intro l p e s m args below meth c G A b mc ms Q En hA hK hQ H locs cells slots Ls hW hl h1 h2
  exact lv_iand En.1 En.2.1 dg (h l p e s m args below meth c G A b mc ms Q En hA hK hQ H locs cells slots Ls hW hl h1 h2)
theorem zR.ior {a y : Int32} (dg : decode q.2.1 pc = .ok (.ior, 1)) (h : zR Y d kc ks q (pc + 1) ls (.int (a ||| y) :: st) μ o) : zR Y d kc ks q pc ls (.int y :: .int a :: st) μ o := by
  intro l p e s m args below meth c G A b mc ms Q En hA hK hQ H locs cells slots Ls hW hl h1 h2
  exact lv_ior En.1 En.2.1 dg (h l p e s m args below meth c G A b mc ms Q En hA hK hQ H locs cells slots Ls hW hl h1 h2)
theorem zR.ixor {a y : Int32} (dg : decode q.2.1 pc = .ok (.ixor, 1)) (h : zR Y d kc ks q (pc + 1) ls (.int (a ^^^ y) :: st) μ o) : zR Y d kc ks q pc ls (.int y :: .int a :: st) μ o := by
  intro l p e s m args below meth c G A b mc ms Q En hA hK hQ H locs cells slots Ls hW hl h1 h2
  exact lv_ixor En.1 En.2.1 dg (h l p e s m args below meth c G A b mc ms Q En hA hK hQ H locs cells slots Ls hW hl h1 h2)
theorem zR.ishl {a y : Int32} (dg : decode q.2.1 pc = .ok (.ishl, 1)) (h : zR Y d kc ks q (pc + 1) ls (.int (a <<< (y &&& 31)) :: st) μ o) : zR Y d kc ks q pc ls (.int y :: .int a :: st) μ o := by
  intro l p e s m args below meth c G A b mc ms Q En hA hK hQ H locs cells slots Ls hW hl h1 h2
  exact lv_ishl En.1 En.2.1 dg (h l p e s m args below meth c G A b mc ms Q En hA hK hQ H locs cells slots Ls hW hl h1 h2)
theorem zR.ishr {a y : Int32} (dg : decode q.2.1 pc = .ok (.ishr, 1)) (h : zR Y d kc ks q (pc + 1) ls (.int (a >>> (y &&& 31)) :: st) μ o) : zR Y d kc ks q pc ls (.int y :: .int a :: st) μ o := by
  intro l p e s m args below meth c G A b mc ms Q En hA hK hQ H locs cells slots Ls hW hl h1 h2
  exact lv_ishr En.1 En.2.1 dg (h l p e s m args below meth c G A b mc ms Q En hA hK hQ H locs cells slots Ls hW hl h1 h2)
theorem zR.iushr {a y : Int32} (dg : decode q.2.1 pc = .ok (.iushr, 1)) (h : zR Y d kc ks q (pc + 1) ls (.int ((a.toUInt32 >>> (y.toUInt32 &&& Int32.toUInt32 31)).toInt32) :: st) μ o) : zR Y d kc ks q pc ls (.int y :: .int a :: st) μ o := by
  intro l p e s m args below meth c G A b mc ms Q En hA hK hQ H locs cells slots Ls hW hl h1 h2
  exact lv_iushr En.1 En.2.1 dg rfl (h l p e s m args below meth c G A b mc ms Q En hA hK hQ H locs cells slots Ls hW hl h1 h2)
theorem zR.idiv {a y : Int32} (dg : decode q.2.1 pc = .ok (.idiv, 1)) (hb : ¬ y = 0) (h : zR Y d kc ks q (pc + 1) ls (.int (a / y) :: st) μ o) : zR Y d kc ks q pc ls (.int y :: .int a :: st) μ o := by
  intro l p e s m args below meth c G A b mc ms Q En hA hK hQ H locs cells slots Ls hW hl h1 h2
  exact lv_idiv En.1 En.2.1 dg hb (h l p e s m args below meth c G A b mc ms Q En hA hK hQ H locs cells slots Ls hW hl h1 h2)
theorem zR.irem {a y : Int32} (dg : decode q.2.1 pc = .ok (.irem, 1)) (hb : ¬ y = 0) (h : zR Y d kc ks q (pc + 1) ls (.int (a - a / y * y) :: st) μ o) : zR Y d kc ks q pc ls (.int y :: .int a :: st) μ o := by
  intro l p e s m args below meth c G A b mc ms Q En hA hK hQ H locs cells slots Ls hW hl h1 h2
  exact lv_irem En.1 En.2.1 dg hb (h l p e s m args below meth c G A b mc ms Q En hA hK hQ H locs cells slots Ls hW hl h1 h2)
theorem zR.ineg {a : Int32} (dg : decode q.2.1 pc = .ok (.ineg, 1)) (h : zR Y d kc ks q (pc + 1) ls (.int (-a) :: st) μ o) : zR Y d kc ks q pc ls (.int a :: st) μ o := by
  intro l p e s m args below meth c G A b mc ms Q En hA hK hQ H locs cells slots Ls hW hl h1 h2
  exact lv_ineg En.1 En.2.1 dg (h l p e s m args below meth c G A b mc ms Q En hA hK hQ H locs cells slots Ls hW hl h1 h2)
theorem zR.ladd {a y : Int64} (dg : decode q.2.1 pc = .ok (.ladd, 1)) (h : zR Y d kc ks q (pc + 1) ls (.long (a + y) :: st) μ o) : zR Y d kc ks q pc ls (.long y :: .long a :: st) μ o := by
  intro l p e s m args below meth c G A b mc ms Q En hA hK hQ H locs cells slots Ls hW hl h1 h2
  exact lv_ladd En.1 En.2.1 dg (h l p e s m args below meth c G A b mc ms Q En hA hK hQ H locs cells slots Ls hW hl h1 h2)
theorem zR.lsub {a y : Int64} (dg : decode q.2.1 pc = .ok (.lsub, 1)) (h : zR Y d kc ks q (pc + 1) ls (.long (a - y) :: st) μ o) : zR Y d kc ks q pc ls (.long y :: .long a :: st) μ o := by
  intro l p e s m args below meth c G A b mc ms Q En hA hK hQ H locs cells slots Ls hW hl h1 h2
  exact lv_lsub En.1 En.2.1 dg (h l p e s m args below meth c G A b mc ms Q En hA hK hQ H locs cells slots Ls hW hl h1 h2)
theorem zR.lmul {a y : Int64} (dg : decode q.2.1 pc = .ok (.lmul, 1)) (h : zR Y d kc ks q (pc + 1) ls (.long (a * y) :: st) μ o) : zR Y d kc ks q pc ls (.long y :: .long a :: st) μ o := by
  intro l p e s m args below meth c G A b mc ms Q En hA hK hQ H locs cells slots Ls hW hl h1 h2
  exact lv_lmul En.1 En.2.1 dg (h l p e s m args below meth c G A b mc ms Q En hA hK hQ H locs cells slots Ls hW hl h1 h2)
theorem zR.land {a y : Int64} (dg : decode q.2.1 pc = .ok (.land, 1)) (h : zR Y d kc ks q (pc + 1) ls (.long (a &&& y) :: st) μ o) : zR Y d kc ks q pc ls (.long y :: .long a :: st) μ o := by
  intro l p e s m args below meth c G A b mc ms Q En hA hK hQ H locs cells slots Ls hW hl h1 h2
  exact lv_land En.1 En.2.1 dg (h l p e s m args below meth c G A b mc ms Q En hA hK hQ H locs cells slots Ls hW hl h1 h2)
theorem zR.lor {a y : Int64} (dg : decode q.2.1 pc = .ok (.lor, 1)) (h : zR Y d kc ks q (pc + 1) ls (.long (a ||| y) :: st) μ o) : zR Y d kc ks q pc ls (.long y :: .long a :: st) μ o := by
  intro l p e s m args below meth c G A b mc ms Q En hA hK hQ H locs cells slots Ls hW hl h1 h2
  exact lv_lor En.1 En.2.1 dg (h l p e s m args below meth c G A b mc ms Q En hA hK hQ H locs cells slots Ls hW hl h1 h2)
theorem zR.lxor {a y : Int64} (dg : decode q.2.1 pc = .ok (.lxor, 1)) (h : zR Y d kc ks q (pc + 1) ls (.long (a ^^^ y) :: st) μ o) : zR Y d kc ks q pc ls (.long y :: .long a :: st) μ o := by
  intro l p e s m args below meth c G A b mc ms Q En hA hK hQ H locs cells slots Ls hW hl h1 h2
  exact lv_lxor En.1 En.2.1 dg (h l p e s m args below meth c G A b mc ms Q En hA hK hQ H locs cells slots Ls hW hl h1 h2)
theorem zR.ldiv {a y : Int64} (dg : decode q.2.1 pc = .ok (.ldiv, 1)) (hb : ¬ y = 0) (h : zR Y d kc ks q (pc + 1) ls (.long (a / y) :: st) μ o) : zR Y d kc ks q pc ls (.long y :: .long a :: st) μ o := by
  intro l p e s m args below meth c G A b mc ms Q En hA hK hQ H locs cells slots Ls hW hl h1 h2
  exact lv_ldiv En.1 En.2.1 dg hb (h l p e s m args below meth c G A b mc ms Q En hA hK hQ H locs cells slots Ls hW hl h1 h2)
theorem zR.lrem {a y : Int64} (dg : decode q.2.1 pc = .ok (.lrem, 1)) (hb : ¬ y = 0) (h : zR Y d kc ks q (pc + 1) ls (.long (a - a / y * y) :: st) μ o) : zR Y d kc ks q pc ls (.long y :: .long a :: st) μ o := by
  intro l p e s m args below meth c G A b mc ms Q En hA hK hQ H locs cells slots Ls hW hl h1 h2
  exact lv_lrem En.1 En.2.1 dg hb (h l p e s m args below meth c G A b mc ms Q En hA hK hQ H locs cells slots Ls hW hl h1 h2)
theorem zR.lshl {a : Int64} {y : Int32} (dg : decode q.2.1 pc = .ok (.lshl, 1)) (h : zR Y d kc ks q (pc + 1) ls (.long (a <<< (y.toInt64 &&& 63)) :: st) μ o) : zR Y d kc ks q pc ls (.int y :: .long a :: st) μ o := by
  intro l p e s m args below meth c G A b mc ms Q En hA hK hQ H locs cells slots Ls hW hl h1 h2
  exact lv_lshl En.1 En.2.1 dg rfl (h l p e s m args below meth c G A b mc ms Q En hA hK hQ H locs cells slots Ls hW hl h1 h2)
theorem zR.lshr {a : Int64} {y : Int32} (dg : decode q.2.1 pc = .ok (.lshr, 1)) (h : zR Y d kc ks q (pc + 1) ls (.long (a >>> (y.toInt64 &&& 63)) :: st) μ o) : zR Y d kc ks q pc ls (.int y :: .long a :: st) μ o := by
  intro l p e s m args below meth c G A b mc ms Q En hA hK hQ H locs cells slots Ls hW hl h1 h2
  exact lv_lshr En.1 En.2.1 dg rfl (h l p e s m args below meth c G A b mc ms Q En hA hK hQ H locs cells slots Ls hW hl h1 h2)
theorem zR.lcmp {a y : Int64} (dg : decode q.2.1 pc = .ok (.lcmp, 1)) (h : zR Y d kc ks q (pc + 1) ls (.int (lg_cmp a y) :: st) μ o) : zR Y d kc ks q pc ls (.long y :: .long a :: st) μ o := by
  intro l p e s m args below meth c G A b mc ms Q En hA hK hQ H locs cells slots Ls hW hl h1 h2
  exact W.lcmp En.1 En.2.1 dg (h l p e s m args below meth c G A b mc ms Q En hA hK hQ H locs cells slots Ls hW hl h1 h2)
theorem zR.i2l {a : Int32} (dg : decode q.2.1 pc = .ok (.i2l, 1)) (h : zR Y d kc ks q (pc + 1) ls (.long a.toInt64 :: st) μ o) : zR Y d kc ks q pc ls (.int a :: st) μ o := by
  intro l p e s m args below meth c G A b mc ms Q En hA hK hQ H locs cells slots Ls hW hl h1 h2
  exact lv_i2l En.1 En.2.1 dg rfl (h l p e s m args below meth c G A b mc ms Q En hA hK hQ H locs cells slots Ls hW hl h1 h2)
theorem zR.l2i {a : Int64} (dg : decode q.2.1 pc = .ok (.l2i, 1)) (h : zR Y d kc ks q (pc + 1) ls (.int a.toInt32 :: st) μ o) : zR Y d kc ks q pc ls (.long a :: st) μ o := by
  intro l p e s m args below meth c G A b mc ms Q En hA hK hQ H locs cells slots Ls hW hl h1 h2
  exact lv_l2i En.1 En.2.1 dg rfl (h l p e s m args below meth c G A b mc ms Q En hA hK hQ H locs cells slots Ls hW hl h1 h2)
theorem zR.i2b {a : Int32} (dg : decode q.2.1 pc = .ok (.i2b, 1)) (h : zR Y d kc ks q (pc + 1) ls (.int a.toInt8.toInt32 :: st) μ o) : zR Y d kc ks q pc ls (.int a :: st) μ o := by
  intro l p e s m args below meth c G A b mc ms Q En hA hK hQ H locs cells slots Ls hW hl h1 h2
  exact lv_i2b En.1 En.2.1 dg rfl (h l p e s m args below meth c G A b mc ms Q En hA hK hQ H locs cells slots Ls hW hl h1 h2)
theorem zR.i2c {a : Int32} (dg : decode q.2.1 pc = .ok (.i2c, 1)) (h : zR Y d kc ks q (pc + 1) ls (.int (a.toUInt32 % 65536).toInt32 :: st) μ o) : zR Y d kc ks q pc ls (.int a :: st) μ o := by
  intro l p e s m args below meth c G A b mc ms Q En hA hK hQ H locs cells slots Ls hW hl h1 h2
  exact lv_i2c En.1 En.2.1 dg rfl (h l p e s m args below meth c G A b mc ms Q En hA hK hQ H locs cells slots Ls hW hl h1 h2)
theorem zR.dup {v : Value} (dg : decode q.2.1 pc = .ok (.dup, 1)) (hv : v.category = 1) (h : zR Y d kc ks q (pc + 1) ls (v :: v :: st) μ o) : zR Y d kc ks q pc ls (v :: st) μ o := by
  intro l p e s m args below meth c G A b mc ms Q En hA hK hQ H locs cells slots Ls hW hl h1 h2
  exact lv_dup En.1 En.2.1 dg ((zt_cat b v).trans hv) (h l p e s m args below meth c G A b mc ms Q En hA hK hQ H locs cells slots Ls hW hl h1 h2)
theorem zR.pop {v : Value} (dg : decode q.2.1 pc = .ok (.pop, 1)) (hv : v.category = 1) (h : zR Y d kc ks q (pc + 1) ls st μ o) : zR Y d kc ks q pc ls (v :: st) μ o := by
  intro l p e s m args below meth c G A b mc ms Q En hA hK hQ H locs cells slots Ls hW hl h1 h2
  exact lv_pop En.1 En.2.1 dg ((zt_cat b v).trans hv) (h l p e s m args below meth c G A b mc ms Q En hA hK hQ H locs cells slots Ls hW hl h1 h2)
theorem zR.dup2 {v w : Value} (dg : decode q.2.1 pc = .ok (.dup2, 1)) (hv : v.category = 1) (hv' : w.category = 1) (h : zR Y d kc ks q (pc + 1) ls (v :: w :: v :: w :: st) μ o) : zR Y d kc ks q pc ls (v :: w :: st) μ o := by
  intro l p e s m args below meth c G A b mc ms Q En hA hK hQ H locs cells slots Ls hW hl h1 h2
  exact lv_dup2_11 En.1 En.2.1 dg ((zt_cat b v).trans hv) ((zt_cat b w).trans hv') (h l p e s m args below meth c G A b mc ms Q En hA hK hQ H locs cells slots Ls hW hl h1 h2)
theorem zR.dup2l {v : Value} (dg : decode q.2.1 pc = .ok (.dup2, 1)) (hv : v.category = 2) (h : zR Y d kc ks q (pc + 1) ls (v :: v :: st) μ o) : zR Y d kc ks q pc ls (v :: st) μ o := by
  intro l p e s m args below meth c G A b mc ms Q En hA hK hQ H locs cells slots Ls hW hl h1 h2
  exact lv_dup2_2 En.1 En.2.1 dg ((zt_cat b v).trans hv) (h l p e s m args below meth c G A b mc ms Q En hA hK hQ H locs cells slots Ls hW hl h1 h2)
theorem zR.dup_x1 {v w : Value} (dg : decode q.2.1 pc = .ok (.dup_x1, 1)) (hv : v.category = 1) (hv' : w.category = 1) (h : zR Y d kc ks q (pc + 1) ls (v :: w :: v :: st) μ o) : zR Y d kc ks q pc ls (v :: w :: st) μ o := by
  intro l p e s m args below meth c G A b mc ms Q En hA hK hQ H locs cells slots Ls hW hl h1 h2
  exact lv_dup_x1 En.1 En.2.1 dg ((zt_cat b v).trans hv) ((zt_cat b w).trans hv') (h l p e s m args below meth c G A b mc ms Q En hA hK hQ H locs cells slots Ls hW hl h1 h2)
theorem zR.iload_n {k : Fin 4} {x : Int32} (j : Nat) (hj : ls[j]? = some ((k : Nat), .int x)) (dg : decode q.2.1 pc = .ok (.iload_n k, 1)) (h : zR Y d kc ks q (pc + 1) ls (.int x :: st) μ o) : zR Y d kc ks q pc ls st μ o := by
  intro l p e s m args below meth c G A b mc ms Q En hA hK hQ H locs cells slots Ls hW hl h1 h2
  exact lv_iload_n En.1 En.2.1 dg rfl (lv_at hl j (zLs_get hj)) (h l p e s m args below meth c G A b mc ms Q En hA hK hQ H locs cells slots Ls hW hl h1 h2)
theorem zR.iload {i : Nat} {x : Int32} (j : Nat) (hj : ls[j]? = some (i, .int x)) (dg : decode q.2.1 pc = .ok (.iload i, 2)) (h : zR Y d kc ks q (pc + 2) ls (.int x :: st) μ o) : zR Y d kc ks q pc ls st μ o := by
  intro l p e s m args below meth c G A b mc ms Q En hA hK hQ H locs cells slots Ls hW hl h1 h2
  exact lv_iload En.1 En.2.1 dg (lv_at hl j (zLs_get hj)) (h l p e s m args below meth c G A b mc ms Q En hA hK hQ H locs cells slots Ls hW hl h1 h2)
theorem zR.lload_n {k : Fin 4} {x : Int64} (j : Nat) (hj : ls[j]? = some ((k : Nat), .long x)) (dg : decode q.2.1 pc = .ok (.lload_n k, 1)) (h : zR Y d kc ks q (pc + 1) ls (.long x :: st) μ o) : zR Y d kc ks q pc ls st μ o := by
  intro l p e s m args below meth c G A b mc ms Q En hA hK hQ H locs cells slots Ls hW hl h1 h2
  exact lv_lload_n En.1 En.2.1 dg rfl (lv_at hl j (zLs_get hj)) (h l p e s m args below meth c G A b mc ms Q En hA hK hQ H locs cells slots Ls hW hl h1 h2)
theorem zR.lload {i : Nat} {x : Int64} (j : Nat) (hj : ls[j]? = some (i, .long x)) (dg : decode q.2.1 pc = .ok (.lload i, 2)) (h : zR Y d kc ks q (pc + 2) ls (.long x :: st) μ o) : zR Y d kc ks q pc ls st μ o := by
  intro l p e s m args below meth c G A b mc ms Q En hA hK hQ H locs cells slots Ls hW hl h1 h2
  exact lv_lload En.1 En.2.1 dg (lv_at hl j (zLs_get hj)) (h l p e s m args below meth c G A b mc ms Q En hA hK hQ H locs cells slots Ls hW hl h1 h2)
theorem zR.aload_n {k : Fin 4} {x : Nat} (j : Nat) (hj : ls[j]? = some ((k : Nat), .ref x)) (dg : decode q.2.1 pc = .ok (.aload_n k, 1)) (h : zR Y d kc ks q (pc + 1) ls (.ref x :: st) μ o) : zR Y d kc ks q pc ls st μ o := by
  intro l p e s m args below meth c G A b mc ms Q En hA hK hQ H locs cells slots Ls hW hl h1 h2
  have hk := h l p e s m args below meth c G A b mc ms Q En hA hK hQ H locs cells slots Ls hW hl h1 h2
  have ha := lv_at hl j (zLs_get hj)
  cases x with
  | zero => exact lv_aload_nN En.1 En.2.1 dg rfl ha hk
  | succ x => exact lv_aload_n En.1 En.2.1 dg rfl ha hk
theorem zR.aload {i x : Nat} (j : Nat) (hj : ls[j]? = some (i, .ref x)) (dg : decode q.2.1 pc = .ok (.aload i, 2)) (h : zR Y d kc ks q (pc + 2) ls (.ref x :: st) μ o) : zR Y d kc ks q pc ls st μ o := by
  intro l p e s m args below meth c G A b mc ms Q En hA hK hQ H locs cells slots Ls hW hl h1 h2
  have hk := h l p e s m args below meth c G A b mc ms Q En hA hK hQ H locs cells slots Ls hW hl h1 h2
  have ha := lv_at hl j (zLs_get hj)
  cases x with
  | zero => exact lv_aloadN En.1 En.2.1 dg ha hk
  | succ x => exact lv_aload En.1 En.2.1 dg ha hk
theorem zR.istore_n {k : Fin 4} {i : Nat} {x : Int32} {ls' : List (Nat × Value)} (dg : decode q.2.1 pc = .ok (.istore_n k, 1)) (hi : (k : Nat) = i) (hn : i < q.2.2.1) (he : (i, Value.int x) :: ls.filter (fun q => !(q.1 == i) && !(q.1 + 1 == i && q.2.category == 2)) = ls') (h : zR Y d kc ks q (pc + 1) ls' st μ o) : zR Y d kc ks q pc ls (.int x :: st) μ o := by
  intro l p e s m args below meth c G A b mc ms Q En hA hK hQ H locs cells slots Ls hW hl h1 h2
  subst he
  exact lv_istore_n En.1 En.2.1 dg hi hl hn (congrArg (List.cons _) (zLs_flt1 b ls i)) (fun Ls' hl' => h l p e s m args below meth c G A b mc ms Q En hA hK hQ H locs cells slots Ls' hW hl' h1 h2)
theorem zR.istore {i : Nat} {x : Int32} {ls' : List (Nat × Value)} (dg : decode q.2.1 pc = .ok (.istore i, 2)) (hn : i < q.2.2.1) (he : (i, Value.int x) :: ls.filter (fun q => !(q.1 == i) && !(q.1 + 1 == i && q.2.category == 2)) = ls') (h : zR Y d kc ks q (pc + 2) ls' st μ o) : zR Y d kc ks q pc ls (.int x :: st) μ o := by
  intro l p e s m args below meth c G A b mc ms Q En hA hK hQ H locs cells slots Ls hW hl h1 h2
  subst he
  exact lv_istore En.1 En.2.1 dg hl hn (congrArg (List.cons _) (zLs_flt1 b ls i)) (fun Ls' hl' => h l p e s m args below meth c G A b mc ms Q En hA hK hQ H locs cells slots Ls' hW hl' h1 h2)
theorem zR.lstore_n {k : Fin 4} {i : Nat} {x : Int64} {ls' : List (Nat × Value)} (dg : decode q.2.1 pc = .ok (.lstore_n k, 1)) (hi : (k : Nat) = i) (hn : i + 1 < q.2.2.1) (he : (i, Value.long x) :: ls.filter (fun q => !(q.1 == i) && (!(q.1 == i + 1) && !(q.1 + 1 == i && q.2.category == 2))) = ls') (h : zR Y d kc ks q (pc + 1) ls' st μ o) : zR Y d kc ks q pc ls (.long x :: st) μ o := by
  intro l p e s m args below meth c G A b mc ms Q En hA hK hQ H locs cells slots Ls hW hl h1 h2
  subst he
  exact lv_lstore_n En.1 En.2.1 dg hi hl hn (congrArg (List.cons _) (zLs_flt2 b ls i)) (fun Ls' hl' => h l p e s m args below meth c G A b mc ms Q En hA hK hQ H locs cells slots Ls' hW hl' h1 h2)
theorem zR.lstore {i : Nat} {x : Int64} {ls' : List (Nat × Value)} (dg : decode q.2.1 pc = .ok (.lstore i, 2)) (hn : i + 1 < q.2.2.1) (he : (i, Value.long x) :: ls.filter (fun q => !(q.1 == i) && (!(q.1 == i + 1) && !(q.1 + 1 == i && q.2.category == 2))) = ls') (h : zR Y d kc ks q (pc + 2) ls' st μ o) : zR Y d kc ks q pc ls (.long x :: st) μ o := by
  intro l p e s m args below meth c G A b mc ms Q En hA hK hQ H locs cells slots Ls hW hl h1 h2
  subst he
  exact lv_lstore En.1 En.2.1 dg hl hn (congrArg (List.cons _) (zLs_flt2 b ls i)) (fun Ls' hl' => h l p e s m args below meth c G A b mc ms Q En hA hK hQ H locs cells slots Ls' hW hl' h1 h2)
theorem zR.astore_n {k : Fin 4} {i x : Nat} {ls' : List (Nat × Value)} (dg : decode q.2.1 pc = .ok (.astore_n k, 1)) (hi : (k : Nat) = i) (hn : i < q.2.2.1) (he : (i, Value.ref x) :: ls.filter (fun q => !(q.1 == i) && !(q.1 + 1 == i && q.2.category == 2)) = ls') (h : zR Y d kc ks q (pc + 1) ls' st μ o) : zR Y d kc ks q pc ls (.ref x :: st) μ o := by
  intro l p e s m args below meth c G A b mc ms Q En hA hK hQ H locs cells slots Ls hW hl h1 h2
  subst he
  cases x with
  | zero => exact lv_astore_nN En.1 En.2.1 dg hi hl hn (congrArg (List.cons _) (zLs_flt1 b ls i)) (fun Ls' hl' => h l p e s m args below meth c G A b mc ms Q En hA hK hQ H locs cells slots Ls' hW hl' h1 h2)
  | succ x => exact lv_astore_n En.1 En.2.1 dg hi hl hn (congrArg (List.cons _) (zLs_flt1 b ls i)) (fun Ls' hl' => h l p e s m args below meth c G A b mc ms Q En hA hK hQ H locs cells slots Ls' hW hl' h1 h2)
theorem zR.astore {i x : Nat} {ls' : List (Nat × Value)} (dg : decode q.2.1 pc = .ok (.astore i, 2)) (hn : i < q.2.2.1) (he : (i, Value.ref x) :: ls.filter (fun q => !(q.1 == i) && !(q.1 + 1 == i && q.2.category == 2)) = ls') (h : zR Y d kc ks q (pc + 2) ls' st μ o) : zR Y d kc ks q pc ls (.ref x :: st) μ o := by
  intro l p e s m args below meth c G A b mc ms Q En hA hK hQ H locs cells slots Ls hW hl h1 h2
  subst he
  cases x with
  | zero => exact lv_astoreN En.1 En.2.1 dg hl hn (congrArg (List.cons _) (zLs_flt1 b ls i)) (fun Ls' hl' => h l p e s m args below meth c G A b mc ms Q En hA hK hQ H locs cells slots Ls' hW hl' h1 h2)
  | succ x => exact lv_astore En.1 En.2.1 dg hl hn (congrArg (List.cons _) (zLs_flt1 b ls i)) (fun Ls' hl' => h l p e s m args below meth c G A b mc ms Q En hA hK hQ H locs cells slots Ls' hW hl' h1 h2)
theorem zR.iinc {i : Nat} {n : Int} {x v : Int32} {ls' : List (Nat × Value)} (j : Nat) (dg : decode q.2.1 pc = .ok (.iinc i n, 3)) (hj : ls[j]? = some (i, .int x)) (hv : x + Int32.ofInt n = v) (hn : i < q.2.2.1) (he : (i, Value.int v) :: ls.filter (fun q => !(q.1 == i) && !(q.1 + 1 == i && q.2.category == 2)) = ls') (h : zR Y d kc ks q (pc + 3) ls' st μ o) : zR Y d kc ks q pc ls st μ o := by
  intro l p e s m args below meth c G A b mc ms Q En hA hK hQ H locs cells slots Ls hW hl h1 h2
  subst he
  exact lv_iinc (k := j) En.1 En.2.1 dg hl (zLs_get hj) hv hn (congrArg (List.cons _) (zLs_flt1 b ls i)) (fun Ls' hl' => h l p e s m args below meth c G A b mc ms Q En hA hK hQ H locs cells slots Ls' hW hl' h1 h2)
/-- fewer locals, by their places -/
theorem zR.sub {ls' : List (Nat × Value)} (is : List Nat) (he : is.filterMap (fun k => ls[k]?) = ls') (h : zR Y d kc ks q pc ls' st μ o) : zR Y d kc ks q pc ls st μ o := by
  intro l p e s m args below meth c G A b mc ms Q En hA hK hQ H locs cells slots Ls hW hl h1 h2
  refine h l p e s m args below meth c G A b mc ms Q En hA hK hQ H locs cells slots Ls hW ?_ h1 h2
  refine lv_sub hl is ?_
  subst he
  unfold lv_pick zLs
  rw [List.map_filterMap]
  congr 1
  funext k
  rw [List.getElem?_map]
theorem zR.if_eq {a : Int32} {off : Int} {tgt : Nat} (dg : decode q.2.1 pc = .ok (.ifCond .eq off, 3)) (ht : (pc : Int) + off = (tgt : Int)) (kt : a = 0 → zR Y d kc ks q tgt ls st μ o) (kf : ¬ a = 0 → zR Y d kc ks q (pc + 3) ls st μ o) : zR Y d kc ks q pc ls (.int a :: st) μ o := by
  intro l p e s m args below meth c G A b mc ms Q En hA hK hQ H locs cells slots Ls hW hl h1 h2
  exact lv_if_eq En.1 En.2.1 dg ht (fun g => kt g l p e s m args below meth c G A b mc ms Q En hA hK hQ H locs cells slots Ls hW hl h1 h2) (fun g => kf g l p e s m args below meth c G A b mc ms Q En hA hK hQ H locs cells slots Ls hW hl h1 h2)
theorem zR.if_ne {a : Int32} {off : Int} {tgt : Nat} (dg : decode q.2.1 pc = .ok (.ifCond .ne off, 3)) (ht : (pc : Int) + off = (tgt : Int)) (kt : ¬ a = 0 → zR Y d kc ks q tgt ls st μ o) (kf : a = 0 → zR Y d kc ks q (pc + 3) ls st μ o) : zR Y d kc ks q pc ls (.int a :: st) μ o := by
  intro l p e s m args below meth c G A b mc ms Q En hA hK hQ H locs cells slots Ls hW hl h1 h2
  exact lv_if_ne En.1 En.2.1 dg ht (fun g => kt g l p e s m args below meth c G A b mc ms Q En hA hK hQ H locs cells slots Ls hW hl h1 h2) (fun g => kf g l p e s m args below meth c G A b mc ms Q En hA hK hQ H locs cells slots Ls hW hl h1 h2)
theorem zR.if_lt {a : Int32} {off : Int} {tgt : Nat} (dg : decode q.2.1 pc = .ok (.ifCond .lt off, 3)) (ht : (pc : Int) + off = (tgt : Int)) (kt : a < 0 → zR Y d kc ks q tgt ls st μ o) (kf : ¬ a < 0 → zR Y d kc ks q (pc + 3) ls st μ o) : zR Y d kc ks q pc ls (.int a :: st) μ o := by
  intro l p e s m args below meth c G A b mc ms Q En hA hK hQ H locs cells slots Ls hW hl h1 h2
  exact lv_if_lt En.1 En.2.1 dg ht (fun g => kt g l p e s m args below meth c G A b mc ms Q En hA hK hQ H locs cells slots Ls hW hl h1 h2) (fun g => kf g l p e s m args below meth c G A b mc ms Q En hA hK hQ H locs cells slots Ls hW hl h1 h2)
theorem zR.if_ge {a : Int32} {off : Int} {tgt : Nat} (dg : decode q.2.1 pc = .ok (.ifCond .ge off, 3)) (ht : (pc : Int) + off = (tgt : Int)) (kt : 0 ≤ a → zR Y d kc ks q tgt ls st μ o) (kf : ¬ 0 ≤ a → zR Y d kc ks q (pc + 3) ls st μ o) : zR Y d kc ks q pc ls (.int a :: st) μ o := by
  intro l p e s m args below meth c G A b mc ms Q En hA hK hQ H locs cells slots Ls hW hl h1 h2
  exact lv_if_ge En.1 En.2.1 dg ht (fun g => kt g l p e s m args below meth c G A b mc ms Q En hA hK hQ H locs cells slots Ls hW hl h1 h2) (fun g => kf g l p e s m args below meth c G A b mc ms Q En hA hK hQ H locs cells slots Ls hW hl h1 h2)
theorem zR.if_gt {a : Int32} {off : Int} {tgt : Nat} (dg : decode q.2.1 pc = .ok (.ifCond .gt off, 3)) (ht : (pc : Int) + off = (tgt : Int)) (kt : 0 < a → zR Y d kc ks q tgt ls st μ o) (kf : ¬ 0 < a → zR Y d kc ks q (pc + 3) ls st μ o) : zR Y d kc ks q pc ls (.int a :: st) μ o := by
  intro l p e s m args below meth c G A b mc ms Q En hA hK hQ H locs cells slots Ls hW hl h1 h2
  exact lv_if_gt En.1 En.2.1 dg ht (fun g => kt g l p e s m args below meth c G A b mc ms Q En hA hK hQ H locs cells slots Ls hW hl h1 h2) (fun g => kf g l p e s m args below meth c G A b mc ms Q En hA hK hQ H locs cells slots Ls hW hl h1 h2)
theorem zR.if_le {a : Int32} {off : Int} {tgt : Nat} (dg : decode q.2.1 pc = .ok (.ifCond .le off, 3)) (ht : (pc : Int) + off = (tgt : Int)) (kt : a ≤ 0 → zR Y d kc ks q tgt ls st μ o) (kf : ¬ a ≤ 0 → zR Y d kc ks q (pc + 3) ls st μ o) : zR Y d kc ks q pc ls (.int a :: st) μ o := by
  intro l p e s m args below meth c G A b mc ms Q En hA hK hQ H locs cells slots Ls hW hl h1 h2
  exact lv_if_le En.1 En.2.1 dg ht (fun g => kt g l p e s m args below meth c G A b mc ms Q En hA hK hQ H locs cells slots Ls hW hl h1 h2) (fun g => kf g l p e s m args below meth c G A b mc ms Q En hA hK hQ H locs cells slots Ls hW hl h1 h2)
theorem zR.icmp_eq {a y : Int32} {off : Int} {tgt : Nat} (dg : decode q.2.1 pc = .ok (.if_icmp .eq off, 3)) (ht : (pc : Int) + off = (tgt : Int)) (kt : a = y → zR Y d kc ks q tgt ls st μ o) (kf : ¬ a = y → zR Y d kc ks q (pc + 3) ls st μ o) : zR Y d kc ks q pc ls (.int y :: .int a :: st) μ o := by
  intro l p e s m args below meth c G A b mc ms Q En hA hK hQ H locs cells slots Ls hW hl h1 h2
  exact lv_icmp_eq En.1 En.2.1 dg ht (fun g => kt g l p e s m args below meth c G A b mc ms Q En hA hK hQ H locs cells slots Ls hW hl h1 h2) (fun g => kf g l p e s m args below meth c G A b mc ms Q En hA hK hQ H locs cells slots Ls hW hl h1 h2)
theorem zR.icmp_ne {a y : Int32} {off : Int} {tgt : Nat} (dg : decode q.2.1 pc = .ok (.if_icmp .ne off, 3)) (ht : (pc : Int) + off = (tgt : Int)) (kt : ¬ a = y → zR Y d kc ks q tgt ls st μ o) (kf : a = y → zR Y d kc ks q (pc + 3) ls st μ o) : zR Y d kc ks q pc ls (.int y :: .int a :: st) μ o := by
  intro l p e s m args below meth c G A b mc ms Q En hA hK hQ H locs cells slots Ls hW hl h1 h2
  exact lv_icmp_ne En.1 En.2.1 dg ht (fun g => kt g l p e s m args below meth c G A b mc ms Q En hA hK hQ H locs cells slots Ls hW hl h1 h2) (fun g => kf g l p e s m args below meth c G A b mc ms Q En hA hK hQ H locs cells slots Ls hW hl h1 h2)
theorem zR.icmp_lt {a y : Int32} {off : Int} {tgt : Nat} (dg : decode q.2.1 pc = .ok (.if_icmp .lt off, 3)) (ht : (pc : Int) + off = (tgt : Int)) (kt : a < y → zR Y d kc ks q tgt ls st μ o) (kf : ¬ a < y → zR Y d kc ks q (pc + 3) ls st μ o) : zR Y d kc ks q pc ls (.int y :: .int a :: st) μ o := by
  intro l p e s m args below meth c G A b mc ms Q En hA hK hQ H locs cells slots Ls hW hl h1 h2
  exact lv_icmp_lt En.1 En.2.1 dg ht (fun g => kt g l p e s m args below meth c G A b mc ms Q En hA hK hQ H locs cells slots Ls hW hl h1 h2) (fun g => kf g l p e s m args below meth c G A b mc ms Q En hA hK hQ H locs cells slots Ls hW hl h1 h2)
theorem zR.icmp_ge {a y : Int32} {off : Int} {tgt : Nat} (dg : decode q.2.1 pc = .ok (.if_icmp .ge off, 3)) (ht : (pc : Int) + off = (tgt : Int)) (kt : y ≤ a → zR Y d kc ks q tgt ls st μ o) (kf : ¬ y ≤ a → zR Y d kc ks q (pc + 3) ls st μ o) : zR Y d kc ks q pc ls (.int y :: .int a :: st) μ o := by
  intro l p e s m args below meth c G A b mc ms Q En hA hK hQ H locs cells slots Ls hW hl h1 h2
  exact lv_icmp_ge En.1 En.2.1 dg ht (fun g => kt g l p e s m args below meth c G A b mc ms Q En hA hK hQ H locs cells slots Ls hW hl h1 h2) (fun g => kf g l p e s m args below meth c G A b mc ms Q En hA hK hQ H locs cells slots Ls hW hl h1 h2)
theorem zR.icmp_gt {a y : Int32} {off : Int} {tgt : Nat} (dg : decode q.2.1 pc = .ok (.if_icmp .gt off, 3)) (ht : (pc : Int) + off = (tgt : Int)) (kt : y < a → zR Y d kc ks q tgt ls st μ o) (kf : ¬ y < a → zR Y d kc ks q (pc + 3) ls st μ o) : zR Y d kc ks q pc ls (.int y :: .int a :: st) μ o := by
  intro l p e s m args below meth c G A b mc ms Q En hA hK hQ H locs cells slots Ls hW hl h1 h2
  exact lv_icmp_gt En.1 En.2.1 dg ht (fun g => kt g l p e s m args below meth c G A b mc ms Q En hA hK hQ H locs cells slots Ls hW hl h1 h2) (fun g => kf g l p e s m args below meth c G A b mc ms Q En hA hK hQ H locs cells slots Ls hW hl h1 h2)
theorem zR.icmp_le {a y : Int32} {off : Int} {tgt : Nat} (dg : decode q.2.1 pc = .ok (.if_icmp .le off, 3)) (ht : (pc : Int) + off = (tgt : Int)) (kt : a ≤ y → zR Y d kc ks q tgt ls st μ o) (kf : ¬ a ≤ y → zR Y d kc ks q (pc + 3) ls st μ o) : zR Y d kc ks q pc ls (.int y :: .int a :: st) μ o := by
  intro l p e s m args below meth c G A b mc ms Q En hA hK hQ H locs cells slots Ls hW hl h1 h2
  exact lv_icmp_le En.1 En.2.1 dg ht (fun g => kt g l p e s m args below meth c G A b mc ms Q En hA hK hQ H locs cells slots Ls hW hl h1 h2) (fun g => kf g l p e s m args below meth c G A b mc ms Q En hA hK hQ H locs cells slots Ls hW hl h1 h2)
theorem zR.goto {off : Int} {tgt : Nat} (dg : decode q.2.1 pc = .ok (.goto off, 3)) (ht : (pc : Int) + off = (tgt : Int)) (h : zR Y d kc ks q tgt ls st μ o) : zR Y d kc ks q pc ls st μ o := by
  intro l p e s m args below meth c G A b mc ms Q En hA hK hQ H locs cells slots Ls hW hl h1 h2
  exact lv_goto En.1 En.2.1 dg ht (h l p e s m args below meth c G A b mc ms Q En hA hK hQ H locs cells slots Ls hW hl h1 h2)
theorem zR.tableIn {dflt lo hi : Int} {offs : Array Int} {len : Nat} {x : Int32} {off : Int} {tgt : Nat} (dg : decode q.2.1 pc = .ok (.tableswitch dflt lo hi offs, len)) (g1 : ¬ x.toInt < lo) (g2 : ¬ hi < x.toInt) (ho : offs[(x.toInt - lo).toNat]? = some off) (ht : (pc : Int) + off = (tgt : Int)) (h : zR Y d kc ks q tgt ls st μ o) : zR Y d kc ks q pc ls (.int x :: st) μ o := by
  intro l p e s m args below meth c G A b mc ms Q En hA hK hQ H locs cells slots Ls hW hl h1 h2
  exact lv_tableIn En.1 En.2.1 dg g1 g2 ho ht (h l p e s m args below meth c G A b mc ms Q En hA hK hQ H locs cells slots Ls hW hl h1 h2)
theorem zR.tableOut {dflt lo hi : Int} {offs : Array Int} {len : Nat} {x : Int32} {tgt : Nat} (dg : decode q.2.1 pc = .ok (.tableswitch dflt lo hi offs, len)) (g : x.toInt < lo ∨ hi < x.toInt) (ht : (pc : Int) + dflt = (tgt : Int)) (h : zR Y d kc ks q tgt ls st μ o) : zR Y d kc ks q pc ls (.int x :: st) μ o := by
  intro l p e s m args below meth c G A b mc ms Q En hA hK hQ H locs cells slots Ls hW hl h1 h2
  exact lv_tableOut En.1 En.2.1 dg g ht (h l p e s m args below meth c G A b mc ms Q En hA hK hQ H locs cells slots Ls hW hl h1 h2)
theorem zR.lookup {dflt : Int} {ps : Array (Int × Int)} {len : Nat} {x : Int32} {off : Int} {tgt : Nat} (dg : decode q.2.1 pc = .ok (.lookupswitch dflt ps, len)) (hp : (ps.toList.zip (ps.toList.drop 1)).all (fun (a, next) => a.1 < next.1) = true) (ho : Op.lookupswitch.offset ps.toList dflt x.toInt = off) (ht : (pc : Int) + off = (tgt : Int)) (h : zR Y d kc ks q tgt ls st μ o) : zR Y d kc ks q pc ls (.int x :: st) μ o := by
  intro l p e s m args below meth c G A b mc ms Q En hA hK hQ H locs cells slots Ls hW hl h1 h2
  exact lv_lookup En.1 En.2.1 dg hp ho ht (h l p e s m args below meth c G A b mc ms Q En hA hK hQ H locs cells slots Ls hW hl h1 h2)
theorem zR.ret {v : Value} {i : Instr} (dg : decode q.2.1 pc = .ok (i, 1)) (hi : zRi (some v) i) (hn : ∀ ty x, q.2.2.2 = some ty → v = .int x → narrow ty (.int x) = .int x) : zR Y d kc ks q pc ls [v] μ (some v, μ) := by
  intro l p e s m args below meth c G A b mc ms Q En hA hK hQ H locs cells slots Ls hW hl h1 h2
  refine W.widen (k := mc) (n := ms) (by omega) (by omega) ?_
  exact hQ pc Ls H locs i dg hi (fun ty x h3 h4 => hn ty x h3 (Option.some.inj h4)) hW
theorem zR.vret (dg : decode q.2.1 pc = .ok (.return_, 1)) : zR Y d kc ks q pc ls [] μ (none, μ) := by
  intro l p e s m args below meth c G A b mc ms Q En hA hK hQ H locs cells slots Ls hW hl h1 h2
  refine W.widen (k := mc) (n := ms) (by omega) (by omega) ?_
  exact hQ pc Ls H locs .return_ dg rfl (fun ty x h3 h4 => nomatch h4) hW
end ZR

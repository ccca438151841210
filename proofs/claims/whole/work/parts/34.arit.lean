/-! MY OWN: division, signs, what a code does with its operands -/
theorem x_key (x y z : Int) (h : decide (z < 0) = (decide (x < 0) ^^ decide (y < 0))) : 0 ≤ z ↔ (0 ≤ x ↔ 0 ≤ y) := by
  by_cases p : x < 0 <;> by_cases q : y < 0 <;> simp [p, q] at h <;> omega
theorem x64_s (a b : Int64) : (z64 0 ≤ a ^^^ b) ↔ (0 ≤ a.toInt ↔ 0 ≤ b.toInt) := by
  have h1 := @BitVec.msb_eq_toInt 64 (a ^^^ b).toBitVec
  have h2 := @BitVec.msb_eq_toInt 64 a.toBitVec
  have h3 := @BitVec.msb_eq_toInt 64 b.toBitVec
  have h4 : (a ^^^ b).toBitVec.msb = (a.toBitVec.msb ^^ b.toBitVec.msb) := BitVec.msb_xor
  rw [h1, h2, h3] at h4
  rw [Int64.le_iff_toInt_le, z64_int (by omega) (by omega)]
  exact x_key _ _ _ h4
theorem x32_s (a b : Int32) : (z32 0 ≤ a ^^^ b) ↔ (0 ≤ a.toInt ↔ 0 ≤ b.toInt) := by
  have h1 := @BitVec.msb_eq_toInt 32 (a ^^^ b).toBitVec
  have h2 := @BitVec.msb_eq_toInt 32 a.toBitVec
  have h3 := @BitVec.msb_eq_toInt 32 b.toBitVec
  have h4 : (a ^^^ b).toBitVec.msb = (a.toBitVec.msb ^^ b.toBitVec.msb) := BitVec.msb_xor
  rw [h1, h2, h3] at h4
  rw [Int32.le_iff_toInt_le, z32_int (by omega) (by omega)]
  exact x_key _ _ _ h4
theorem z64_td {a b : Int} (h1 : -9223372036854775808 < a) (h2 : a < 9223372036854775808) (h3 : -9223372036854775808 ≤ b) (h4 : b < 9223372036854775808) : z64 a / z64 b = z64 (a.tdiv b) := by
  rw [← Int64.toInt_inj, Int64.toInt_div_of_ne_left]
  · rw [z64_int (by omega) h2, z64_int h3 h4]
    have := Int.natAbs_tdiv_le_natAbs a b
    rw [z64_int (by omega) (by omega)]
  · intro h
    have := congrArg Int64.toInt h
    rw [z64_int (by omega) h2] at this
    have h6 : (Int64.minValue).toInt = -9223372036854775808 := by decide
    omega
theorem z32_td {a b : Int} (h1 : -2147483648 < a) (h2 : a < 2147483648) (h3 : -2147483648 ≤ b) (h4 : b < 2147483648) : z32 a / z32 b = z32 (a.tdiv b) := by
  rw [← Int32.toInt_inj, Int32.toInt_div_of_ne_left]
  · rw [z32_int (by omega) h2, z32_int h3 h4]
    have := Int.natAbs_tdiv_le_natAbs a b
    rw [z32_int (by omega) (by omega)]
  · intro h
    have := congrArg Int32.toInt h
    rw [z32_int (by omega) h2] at this
    have h6 : (Int32.minValue).toInt = -2147483648 := by decide
    omega
theorem z64_rem {a b : Int} (h1 : 0 ≤ a) (h2 : a < 9223372036854775808) (h3 : 0 < b) (h4 : b < 9223372036854775808) : z64 a - z64 a / z64 b * z64 b = z64 (a % b) := by
  rw [z64_td (by omega) h2 (by omega) h4, z64_mul, z64_sub, Int.tdiv_eq_ediv_of_nonneg h1, Int.emod_def, Int.mul_comm]
theorem z64_div {a b : Int} (h1 : 0 ≤ a) (h2 : a < 9223372036854775808) (h3 : 0 < b) (h4 : b < 9223372036854775808) : z64 a / z64 b = z64 (a / b) := by
  rw [z64_td (by omega) h2 (by omega) h4, Int.tdiv_eq_ediv_of_nonneg h1]
theorem fd_same {x y : Int} (hy : y ≠ 0) (h : 0 ≤ x ↔ 0 ≤ y) : x.fdiv y = x.tdiv y := by
  rw [Int.fdiv_eq_tdiv]
  by_cases hx : 0 ≤ x
  · have := h.1 hx
    simp [hx, this]
  · have h5 : ¬ 0 ≤ y := fun g => hx (h.2 g)
    have : y.sign = -1 := Int.sign_eq_neg_one_of_neg (by omega)
    simp [hx, h5, this]
theorem fd_dvd {x y : Int} (h : x.tdiv y * y = x) : x.fdiv y = x.tdiv y := by
  have : y ∣ x := ⟨x.tdiv y, by rw [Int.mul_comm]; exact h.symm⟩
  rw [Int.fdiv_eq_tdiv, if_pos this]
  omega
theorem fd_diff {x y : Int} (hy : y ≠ 0) (h : ¬ (0 ≤ x ↔ 0 ≤ y)) (h2 : x.tdiv y * y ≠ x) : x.fdiv y = x.tdiv y - 1 := by
  have h3 : ¬ y ∣ x := fun g => h2 (Int.tdiv_mul_cancel g)
  rw [Int.fdiv_eq_tdiv, if_neg h3]
  by_cases hx : 0 ≤ x
  · have : ¬ 0 ≤ y := fun g => h ⟨fun _ => g, fun _ => hx⟩
    simp [hx, this]
  · have h5 : 0 ≤ y := by
      by_cases g : 0 ≤ y
      · exact g
      · exact absurd ⟨fun g' => absurd g' hx, fun g' => absurd g' g⟩ h
    have : y.sign = 1 := Int.sign_eq_one_of_pos (by omega)
    simp [hx, h5, this]
theorem td_mul {x y : Int} : -x.natAbs ≤ x.tdiv y * y ∧ x.tdiv y * y ≤ x.natAbs := by
  have h1 := Int.mul_tdiv_add_tmod x y
  have h2 := Int.natAbs_tdiv x y
  have h3 : (x.tdiv y * y).natAbs ≤ x.natAbs := by
    rw [Int.natAbs_mul, h2]
    exact Nat.div_mul_le_self _ _
  omega
theorem cFd32 {x y : Int} (hy : y ≠ 0) (h1 : -1000000 ≤ x) (h2 : x ≤ 1000000) (h3 : -1000000 ≤ y) (h4 : y ≤ 1000000) : fJ9_floorDiv_7cf53 (z32 x) (z32 y) = some (z32 (x.fdiv y)) := by
  have h5 := @td_mul x y
  unfold fJ9_floorDiv_7cf53
  simp (disch := omega) only [x32_s, z32_int, z32_td, z32_add, z32_sub, z32_mul, z32_neg, z32_litn, z32_lt, z32_le, z32_eq, gd_pos]
  by_cases h : (0 ≤ x ↔ 0 ≤ y)
  · rw [if_pos h, fd_same hy h]
  · rw [if_neg h]
    by_cases h6 : x.tdiv y * y = x
    · rw [if_pos h6, fd_dvd h6]
    · rw [if_neg h6, fd_diff hy h h6]
theorem cFm32 {x y : Int} (hy : y ≠ 0) (h1 : -1000000 ≤ x) (h2 : x ≤ 1000000) (h3 : -1000000 ≤ y) (h4 : y ≤ 1000000) : fJ9_floorMod_7cf53 (z32 x) (z32 y) = some (z32 (x.fmod y)) := by
  have h5 := @td_mul x y
  unfold fJ9_floorMod_7cf53
  simp (disch := omega) only [x32_s, z32_int, z32_td, z32_add, z32_sub, z32_mul, z32_neg, z32_litn, z32_lt, z32_le, z32_eq, gd_pos]
  rw [Int.fmod_def]
  by_cases h : (0 ≤ x ↔ 0 ≤ y)
  · rw [if_pos h, fd_same hy h, Int.mul_comm y]
  · rw [if_neg h]
    by_cases h6 : x - x.tdiv y * y = 0
    · rw [if_pos h6, fd_dvd (by omega), Int.mul_comm y]
    · rw [if_neg h6, fd_diff hy h (by omega), Int.mul_sub, Int.mul_comm y]
      congr 2
      omega
theorem mFl {x y : Int} (hy : y ≠ 0) (h1 : -4000000000000000000 ≤ x) (h2 : x ≤ 4000000000000000000) (h3 : -4000000000000000000 ≤ y) (h4 : y ≤ 4000000000000000000) : fX11_floor (z64 x) (z64 y) = some (z64 (x.fdiv y)) := by
  have h5 := @td_mul x y
  unfold fX11_floor
  simp (disch := omega) only [z64_td, z64_add, z64_sub, z64_mul, z64_neg, z64_litn, z64_lt, z64_le, z64_eq, gd_pos, if_neg, fX11_floor_32, fX11_floor_43]
  by_cases h6 : x - x.tdiv y * y = 0
  · rw [if_pos h6, fd_dvd (by omega)]
  · rw [if_neg h6]
    by_cases hx : 0 ≤ x
    · by_cases hy' : 0 ≤ y
      · rw [if_pos hx, if_pos hy', fd_same hy (by omega)]; rfl
      · rw [if_pos hx, if_neg hy', fd_diff hy (by omega) (by omega)]; rfl
    · by_cases hy' : 0 ≤ y
      · rw [if_neg hx, if_pos hy', fd_diff hy (by omega) (by omega)]; rfl
      · rw [if_neg hx, if_neg hy', fd_same hy (by omega)]; rfl
theorem mFl0 {x : Int} : fX11_floor (z64 x) (z64 0) = some (z64 0) := by
  unfold fX11_floor
  simp (disch := omega) only [z64_add, z64_sub, z64_mul, z64_neg, z64_litn, z64_lt, z64_le, z64_eq, if_pos, if_true]
theorem cFd64 {x y : Int} (hy : y ≠ 0) (h1 : -9000000000000000000 ≤ x) (h2 : x ≤ 9000000000000000000) (h3 : -9000000000000000000 ≤ y) (h4 : y ≤ 9000000000000000000) : fJ9_floorDiv_f86c9 (z64 x) (z64 y) = some (z64 (x.fdiv y)) := by
  have h5 := @td_mul x y
  unfold fJ9_floorDiv_f86c9
  simp (disch := omega) only [x64_s, z64_int, z64_td, z64_add, z64_sub, z64_mul, z64_neg, z64_litn, z64_lt, z64_le, z64_eq, gd_pos]
  by_cases h : (0 ≤ x ↔ 0 ≤ y)
  · rw [if_pos h, fd_same hy h]
  · rw [if_neg h]
    by_cases h6 : x.tdiv y * y = x
    · rw [if_pos h6, fd_dvd h6]
    · rw [if_neg h6, fd_diff hy h h6]
/-- the thousandths of the first to the second (above 0), floored: as both sides have it -/
theorem cThou {x y : Int} (h1 : -9000000000000000 ≤ x) (h2 : x ≤ 9000000000000000) (h3 : 0 < y) (h4 : y ≤ 9000000000000000000) : fX10_thousandths (z64 x) (z64 y) = some (z32 ((1000 * x).fdiv y)) := by
  unfold fX10_thousandths
  simp (disch := omega) only [z64_add, z64_sub, z64_mul, z64_neg, z64_litn, z64_lt, z64_le, z64_eq, if_neg, cFd64, bnr_s, z64_32]
theorem mThou {x y : Int} (h1 : -4000000000000000 ≤ x) (h2 : x ≤ 4000000000000000) (h3 : 0 < y) (h4 : y ≤ 4000000000000000000) : fX11_thousandths (z64 x) (z64 y) = some (z32 ((1000 * x).fdiv y)) := by
  unfold fX11_thousandths
  simp (disch := omega) only [z64_add, z64_sub, z64_mul, z64_neg, z64_litn, mFl, bnr_s, z64_32]
theorem mThou32 {x y : Int} (h1 : 0 ≤ x) (h2 : x ≤ 1000000) (h3 : 0 < y) (h4 : y ≤ 1000000) : z32 1000 * z32 x / z32 y = z32 ((1000 * x).fdiv y) := by
  rw [z32_mul, z32_div (by omega) (by omega) h3 (by omega), Int.fdiv_eq_ediv_of_nonneg _ (by omega)]
def cl6 (x : Int) : Int := if x ≤ 1000000 then (if -1000000 ≤ x then x else -1000000) else 1000000
/-- what the code m (its number on the other side) makes of two operands -/
def zop (m x y : Int) : Int := if m = 10 then cl6 (x + y) else if m = 11 then cl6 (x - y) else if m = 12 then cl6 (x * y) else if m = 13 then (if y = 0 then 0 else cl6 (x.fdiv y)) else if m = 14 then (if y = 0 then 0 else cl6 (x.fmod y)) else if m = 15 then (if y ≤ x then y else x) else if m = 16 then (if x ≤ y then y else x) else if m = 17 then (if y ≤ x then 0 else 1) else if m = 18 then (if x ≤ y then 0 else 1) else if m = 19 then (if x = y then 1 else 0) else if m = 20 then (if x = 0 then 0 else y) else (if x = 0 then y else 1)
/-- the number that the one side has for the code -/
def zcd (m : Int) : Int := if m = 10 then 43 else if m = 11 then 45 else if m = 12 then 42 else if m = 13 then 47 else if m = 14 then 37 else if m = 15 then 8 else if m = 16 then 9 else if m = 17 then 60 else if m = 18 then 62 else if m = 19 then 61 else if m = 20 then 6 else 7
theorem cl6_b (x : Int) : -1000000 ≤ cl6 x ∧ cl6 x ≤ 1000000 := by unfold cl6; split <;> (try split) <;> omega
theorem cBou {x : Int} (h1 : -9000000000000000000 ≤ x) (h2 : x ≤ 9000000000000000000) : fX8_bounded (z64 x) = z32 (cl6 x) := by
  unfold fX8_bounded fJ9_max_f86c9 fJ9_min_f86c9 cl6
  simp (disch := omega) only [z64_add, z64_sub, z64_mul, z64_neg, z64_litn, z64_lt, z64_le, z64_eq]
  by_cases g1 : x < 1000000
  · rw [if_pos g1]
    simp (disch := omega) only [z64_add, z64_sub, z64_mul, z64_neg, z64_litn, z64_lt, z64_le, z64_eq, if_pos]
    by_cases g2 : -1000000 < x
    · simp (disch := omega) only [if_pos, z64_32]
    · by_cases g3 : -1000000 ≤ x
      · have : x = -1000000 := by omega
        subst this
        rfl
      · simp (disch := omega) only [if_neg, z64_32]
  · rw [if_neg g1]
    simp (disch := omega) only [z64_add, z64_sub, z64_mul, z64_neg, z64_litn, z64_lt, z64_le, z64_eq, if_pos, z64_32]
    by_cases g2 : x ≤ 1000000
    · have : x = 1000000 := by omega
      subst this
      rfl
    · rw [if_neg g2]
theorem mHld {x : Int} (h1 : -9000000000000000000 ≤ x) (h2 : x ≤ 9000000000000000000) : fX11_held (z64 x) = z64 (cl6 x) := by
  unfold fX11_held cl6
  simp (disch := omega) only [z64_add, z64_sub, z64_mul, z64_neg, z64_litn, z64_lt, z64_le, z64_eq]
  split <;> (try split) <;> rfl
theorem zop_b {m x y : Int} (h1 : -1000000 ≤ x) (h2 : x ≤ 1000000) (h3 : -1000000 ≤ y) (h4 : y ≤ 1000000) : -1000000 ≤ zop m x y ∧ zop m x y ≤ 1000000 := by
  have := cl6_b (x + y)
  have := cl6_b (x - y)
  have := cl6_b (x * y)
  have := cl6_b (x.fdiv y)
  have := cl6_b (x.fmod y)
  unfold zop
  repeat' split
  all_goals omega
theorem fd_b {x y : Int} : (x.fdiv y).natAbs ≤ x.natAbs + 1 := by
  have h := Int.natAbs_tdiv_le_natAbs x y
  by_cases hy : y = 0
  · subst hy; simp
  by_cases h2 : (0 ≤ x ↔ 0 ≤ y)
  · rw [fd_same hy h2]; omega
  · by_cases h3 : x.tdiv y * y = x
    · rw [fd_dvd h3]; omega
    · rw [fd_diff hy h2 h3]; omega
theorem fm_b {x y : Int} (hy : y ≠ 0) : (x.fmod y).natAbs ≤ y.natAbs := by
  rcases (by omega : 0 < y ∨ y < 0) with h | h
  · have := Int.fmod_nonneg_of_pos x h
    have := Int.fmod_lt_of_pos x h
    omega
  · have h1 := Int.fmod_eq_emod (a := x) (b := y)
    have h2 := Int.emod_nonneg x hy
    have h3 := Int.emod_lt x hy
    rw [h1]
    split <;> omega
theorem mul_b {x y : Int} (h1 : -1000000 ≤ x) (h2 : x ≤ 1000000) (h3 : -1000000 ≤ y) (h4 : y ≤ 1000000) : -1000000000000 ≤ x * y ∧ x * y ≤ 1000000000000 := by
  have : (x * y).natAbs ≤ 1000000 * 1000000 := by
    rw [Int.natAbs_mul]
    exact Nat.mul_le_mul (by omega) (by omega)
  omega
theorem cJoin {m x y : Int} (hm : 10 ≤ m) (hm' : m ≤ 21) (h1 : -1000000 ≤ x) (h2 : x ≤ 1000000) (h3 : -1000000 ≤ y) (h4 : y ≤ 1000000) (hb : 20 ≤ m → (x = 0 ∨ x = 1) ∧ (y = 0 ∨ y = 1)) : ∃ v, fX8_joined (z32 (zcd m)) (z32 x) (z32 y) = some v ∧ fX8_bounded v = z32 (zop m x y) := by
  have hd := @fd_b x y
  have hu := mul_b h1 h2 h3 h4
  rcases (by omega : m = 10 ∨ m = 11 ∨ m = 12 ∨ m = 13 ∨ m = 14 ∨ m = 15 ∨ m = 16 ∨ m = 17 ∨ m = 18 ∨ m = 19 ∨ m = 20 ∨ m = 21) with h | h | h | h | h | h | h | h | h | h | h | h
  all_goals subst h
  · simp (disch := omega) only [fX8_joined, zcd, zop, ↓reduceIte, ieqT, ieqF, iltT, iltF, ileT, ileF, not_true, not_false_iff, z32_add, z32_sub, z32_mul, z32_neg, z32_litn, z32_lt, z32_le, z32_eq, z64_add, z64_sub, z64_mul, z64_neg, z64_litn, z32_64, z64_32]
    exact ⟨_, rfl, cBou (by omega) (by omega)⟩
  · simp (disch := omega) only [fX8_joined, zcd, zop, ↓reduceIte, ieqT, ieqF, iltT, iltF, ileT, ileF, not_true, not_false_iff, z32_add, z32_sub, z32_mul, z32_neg, z32_litn, z32_lt, z32_le, z32_eq, z64_add, z64_sub, z64_mul, z64_neg, z64_litn, z32_64, z64_32]
    exact ⟨_, rfl, cBou (by omega) (by omega)⟩
  · simp (disch := omega) only [fX8_joined, zcd, zop, ↓reduceIte, ieqT, ieqF, iltT, iltF, ileT, ileF, not_true, not_false_iff, z32_add, z32_sub, z32_mul, z32_neg, z32_litn, z32_lt, z32_le, z32_eq, z64_add, z64_sub, z64_mul, z64_neg, z64_litn, z32_64, z64_32]
    exact ⟨_, rfl, cBou (by omega) (by omega)⟩
  · by_cases hy : y = 0
    · subst hy
      simp (disch := omega) only [fX8_joined, zcd, zop, ↓reduceIte, ieqT, ieqF, iltT, iltF, ileT, ileF, not_true, not_false_iff, z32_add, z32_sub, z32_mul, z32_neg, z32_litn, z32_lt, z32_le, z32_eq, z64_add, z64_sub, z64_mul, z64_neg, z64_litn, z32_64, z64_32]
      exact ⟨_, rfl, cBou (by omega) (by omega)⟩
    · simp (disch := omega) only [fX8_joined, zcd, zop, ↓reduceIte, ieqT, ieqF, iltT, iltF, ileT, ileF, not_true, not_false_iff, z32_add, z32_sub, z32_mul, z32_neg, z32_litn, z32_lt, z32_le, z32_eq, z64_add, z64_sub, z64_mul, z64_neg, z64_litn, z32_64, z64_32, cFd32, bnr_s]
      exact ⟨_, rfl, cBou (by omega) (by omega)⟩
  · by_cases hy : y = 0
    · subst hy
      simp (disch := omega) only [fX8_joined, zcd, zop, ↓reduceIte, ieqT, ieqF, iltT, iltF, ileT, ileF, not_true, not_false_iff, z32_add, z32_sub, z32_mul, z32_neg, z32_litn, z32_lt, z32_le, z32_eq, z64_add, z64_sub, z64_mul, z64_neg, z64_litn, z32_64, z64_32]
      exact ⟨_, rfl, cBou (by omega) (by omega)⟩
    · have hm := fm_b (x := x) hy
      simp (disch := omega) only [fX8_joined, zcd, zop, ↓reduceIte, ieqT, ieqF, iltT, iltF, ileT, ileF, not_true, not_false_iff, z32_add, z32_sub, z32_mul, z32_neg, z32_litn, z32_lt, z32_le, z32_eq, z64_add, z64_sub, z64_mul, z64_neg, z64_litn, z32_64, z64_32, cFm32, bnr_s]
      exact ⟨_, rfl, cBou (by omega) (by omega)⟩
  · have hz : -1000000 ≤ zmin x y ∧ zmin x y ≤ 1000000 := by unfold zmin; split <;> omega
    simp (disch := omega) only [fX8_joined, zcd, zop, ↓reduceIte, ieqT, ieqF, iltT, iltF, ileT, ileF, not_true, not_false_iff, z32_add, z32_sub, z32_mul, z32_neg, z32_litn, z32_lt, z32_le, z32_eq, z64_add, z64_sub, z64_mul, z64_neg, z64_litn, z32_64, z64_32, jmin_z]
    refine ⟨_, rfl, ?_⟩
    rw [cBou (by omega) (by omega)]
    simp (disch := omega) only [cl6, if_pos]
    rfl
  · have hz : -1000000 ≤ zmax x y ∧ zmax x y ≤ 1000000 := by unfold zmax; split <;> omega
    simp (disch := omega) only [fX8_joined, zcd, zop, ↓reduceIte, ieqT, ieqF, iltT, iltF, ileT, ileF, not_true, not_false_iff, z32_add, z32_sub, z32_mul, z32_neg, z32_litn, z32_lt, z32_le, z32_eq, z64_add, z64_sub, z64_mul, z64_neg, z64_litn, z32_64, z64_32, jmax_z]
    refine ⟨_, rfl, ?_⟩
    rw [cBou (by omega) (by omega)]
    simp (disch := omega) only [cl6, if_pos]
    rfl
  · simp (disch := omega) only [fX8_joined, zcd, zop, ↓reduceIte, ieqT, ieqF, iltT, iltF, ileT, ileF, not_true, not_false_iff, z32_add, z32_sub, z32_mul, z32_neg, z32_litn, z32_lt, z32_le, z32_eq, z64_add, z64_sub, z64_mul, z64_neg, z64_litn, z32_64, z64_32]
    split
    · exact ⟨_, rfl, cBou (by omega) (by omega)⟩
    · exact ⟨_, rfl, cBou (by omega) (by omega)⟩
  · simp (disch := omega) only [fX8_joined, zcd, zop, ↓reduceIte, ieqT, ieqF, iltT, iltF, ileT, ileF, not_true, not_false_iff, z32_add, z32_sub, z32_mul, z32_neg, z32_litn, z32_lt, z32_le, z32_eq, z64_add, z64_sub, z64_mul, z64_neg, z64_litn, z32_64, z64_32]
    split
    · exact ⟨_, rfl, cBou (by omega) (by omega)⟩
    · exact ⟨_, rfl, cBou (by omega) (by omega)⟩
  · simp (disch := omega) only [fX8_joined, zcd, zop, ↓reduceIte, ieqT, ieqF, iltT, iltF, ileT, ileF, not_true, not_false_iff, z32_add, z32_sub, z32_mul, z32_neg, z32_litn, z32_lt, z32_le, z32_eq, z64_add, z64_sub, z64_mul, z64_neg, z64_litn, z32_64, z64_32]
    split
    · exact ⟨_, rfl, cBou (by omega) (by omega)⟩
    · exact ⟨_, rfl, cBou (by omega) (by omega)⟩
  · obtain ⟨g1, g2⟩ := hb (by omega)
    rcases g1 with g1 | g1 <;> rcases g2 with g2 | g2 <;> subst g1 <;> subst g2 <;> exact ⟨_, rfl, by decide⟩
  · obtain ⟨g1, g2⟩ := hb (by omega)
    rcases g1 with g1 | g1 <;> rcases g2 with g2 | g2 <;> subst g1 <;> subst g2 <;> exact ⟨_, rfl, by decide⟩
theorem mTwo {m x y : Int} (hm : 10 ≤ m) (hm' : m ≤ 21) (h1 : -1000000 ≤ x) (h2 : x ≤ 1000000) (h3 : -1000000 ≤ y) (h4 : y ≤ 1000000) (hb : 20 ≤ m → (x = 0 ∨ x = 1) ∧ (y = 0 ∨ y = 1)) : fX11_two (z32 m) (z64 x) (z64 y) = some (z64 (zop m x y)) := by
  have hd := @fd_b x y
  have hu := mul_b h1 h2 h3 h4
  rcases (by omega : m = 10 ∨ m = 11 ∨ m = 12 ∨ m = 13 ∨ m = 14 ∨ m = 15 ∨ m = 16 ∨ m = 17 ∨ m = 18 ∨ m = 19 ∨ m = 20 ∨ m = 21) with h | h | h | h | h | h | h | h | h | h | h | h
  all_goals subst h
  · simp (disch := omega) only [fX11_two, zop, ↓reduceIte, ieqT, ieqF, iltT, iltF, ileT, ileF, not_true, not_false_iff, z32_add, z32_sub, z32_mul, z32_neg, z32_litn, z32_lt, z32_le, z32_eq, z64_add, z64_sub, z64_mul, z64_neg, z64_litn, z64_lt, z64_le, z64_eq, mHld]
  · simp (disch := omega) only [fX11_two, zop, ↓reduceIte, ieqT, ieqF, iltT, iltF, ileT, ileF, not_true, not_false_iff, z32_add, z32_sub, z32_mul, z32_neg, z32_litn, z32_lt, z32_le, z32_eq, z64_add, z64_sub, z64_mul, z64_neg, z64_litn, z64_lt, z64_le, z64_eq, mHld]
  · simp (disch := omega) only [fX11_two, zop, ↓reduceIte, ieqT, ieqF, iltT, iltF, ileT, ileF, not_true, not_false_iff, z32_add, z32_sub, z32_mul, z32_neg, z32_litn, z32_lt, z32_le, z32_eq, z64_add, z64_sub, z64_mul, z64_neg, z64_litn, z64_lt, z64_le, z64_eq, mHld]
  · by_cases hy : y = 0
    · subst hy
      simp (disch := omega) only [fX11_two, zop, ↓reduceIte, ieqT, ieqF, iltT, iltF, ileT, ileF, not_true, not_false_iff, z32_add, z32_sub, z32_mul, z32_neg, z32_litn, z32_lt, z32_le, z32_eq, z64_add, z64_sub, z64_mul, z64_neg, z64_litn, z64_lt, z64_le, z64_eq, mFl0, bnr_s]
      rfl
    · simp (disch := omega) only [fX11_two, zop, ↓reduceIte, ieqT, ieqF, iltT, iltF, ileT, ileF, not_true, not_false_iff, z32_add, z32_sub, z32_mul, z32_neg, z32_litn, z32_lt, z32_le, z32_eq, z64_add, z64_sub, z64_mul, z64_neg, z64_litn, z64_lt, z64_le, z64_eq, mFl, bnr_s, mHld]
  · by_cases hy : y = 0
    · subst hy
      simp (disch := omega) only [fX11_two, zop, ↓reduceIte, ieqT, ieqF, iltT, iltF, ileT, ileF, not_true, not_false_iff, z32_add, z32_sub, z32_mul, z32_neg, z32_litn, z32_lt, z32_le, z32_eq, z64_add, z64_sub, z64_mul, z64_neg, z64_litn, z64_lt, z64_le, z64_eq, mFl0, bnr_s]
    · have hm := fm_b (x := x) hy
      have he := Int.fmod_def x y
      simp (disch := omega) only [fX11_two, zop, ↓reduceIte, ieqT, ieqF, iltT, iltF, ileT, ileF, not_true, not_false_iff, z32_add, z32_sub, z32_mul, z32_neg, z32_litn, z32_lt, z32_le, z32_eq, z64_add, z64_sub, z64_mul, z64_neg, z64_litn, z64_lt, z64_le, z64_eq, mFl, bnr_s, ← he, mHld]
  · simp (disch := omega) only [fX11_two, zop, ↓reduceIte, ieqT, ieqF, iltT, iltF, ileT, ileF, not_true, not_false_iff, z32_add, z32_sub, z32_mul, z32_neg, z32_litn, z32_lt, z32_le, z32_eq, z64_add, z64_sub, z64_mul, z64_neg, z64_litn, z64_lt, z64_le, z64_eq]
    split <;> rfl
  · simp (disch := omega) only [fX11_two, zop, ↓reduceIte, ieqT, ieqF, iltT, iltF, ileT, ileF, not_true, not_false_iff, z32_add, z32_sub, z32_mul, z32_neg, z32_litn, z32_lt, z32_le, z32_eq, z64_add, z64_sub, z64_mul, z64_neg, z64_litn, z64_lt, z64_le, z64_eq]
    split <;> rfl
  · simp (disch := omega) only [fX11_two, zop, ↓reduceIte, ieqT, ieqF, iltT, iltF, ileT, ileF, not_true, not_false_iff, z32_add, z32_sub, z32_mul, z32_neg, z32_litn, z32_lt, z32_le, z32_eq, z64_add, z64_sub, z64_mul, z64_neg, z64_litn, z64_lt, z64_le, z64_eq]
    split <;> rfl
  · simp (disch := omega) only [fX11_two, zop, ↓reduceIte, ieqT, ieqF, iltT, iltF, ileT, ileF, not_true, not_false_iff, z32_add, z32_sub, z32_mul, z32_neg, z32_litn, z32_lt, z32_le, z32_eq, z64_add, z64_sub, z64_mul, z64_neg, z64_litn, z64_lt, z64_le, z64_eq]
    split <;> rfl
  · simp (disch := omega) only [fX11_two, zop, ↓reduceIte, ieqT, ieqF, iltT, iltF, ileT, ileF, not_true, not_false_iff, z32_add, z32_sub, z32_mul, z32_neg, z32_litn, z32_lt, z32_le, z32_eq, z64_add, z64_sub, z64_mul, z64_neg, z64_litn, z64_lt, z64_le, z64_eq]
    split <;> rfl
  · obtain ⟨g1, g2⟩ := hb (by omega)
    rcases g1 with g1 | g1 <;> rcases g2 with g2 | g2 <;> subst g1 <;> subst g2 <;> decide
  · obtain ⟨g1, g2⟩ := hb (by omega)
    rcases g1 with g1 | g1 <;> rcases g2 with g2 | g2 <;> subst g1 <;> subst g2 <;> decide

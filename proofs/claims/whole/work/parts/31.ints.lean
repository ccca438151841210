/-! MY OWN: whole numbers behind the machine's ints and longs; reading and writing over them -/
def z32 (a : Int) : Int32 := Int32.ofInt a
def z64 (a : Int) : Int64 := Int64.ofInt a
theorem z32_add (a b : Int) : z32 a + z32 b = z32 (a + b) := (Int32.ofInt_add a b).symm
theorem z32_sub (a b : Int) : z32 a - z32 b = z32 (a - b) := (Int32.ofInt_sub a b).symm
theorem z32_mul (a b : Int) : z32 a * z32 b = z32 (a * b) := (Int32.ofInt_mul a b).symm
theorem z32_neg (a : Int) : - z32 a = z32 (-a) := (Int32.ofInt_neg a).symm
theorem z64_add (a b : Int) : z64 a + z64 b = z64 (a + b) := (Int64.ofInt_add a b).symm
theorem z64_sub (a b : Int) : z64 a - z64 b = z64 (a - b) := (Int64.ofInt_sub a b).symm
theorem z64_mul (a b : Int) : z64 a * z64 b = z64 (a * b) := (Int64.ofInt_mul a b).symm
theorem z64_neg (a : Int) : - z64 a = z64 (-a) := (Int64.ofInt_neg a).symm
theorem z32_litn (m : Nat) : (no_index (OfNat.ofNat m) : Int32) = z32 (no_index (OfNat.ofNat m)) := by
  show Int32.ofNat m = Int32.ofInt (m : Int)
  exact Int32.ofInt_eq_ofNat.symm
theorem z64_litn (m : Nat) : (no_index (OfNat.ofNat m) : Int64) = z64 (no_index (OfNat.ofNat m)) := by
  show Int64.ofNat m = Int64.ofInt (m : Int)
  exact Int64.ofInt_eq_ofNat.symm
theorem z32_ofNat (m : Nat) : Int32.ofNat m = z32 m := Int32.ofInt_eq_ofNat.symm
theorem z32_int {a : Int} (h1 : -2147483648 ≤ a) (h2 : a < 2147483648) : (z32 a).toInt = a := Int32.toInt_ofInt_of_le h1 h2
theorem z64_int {a : Int} (h1 : -9223372036854775808 ≤ a) (h2 : a < 9223372036854775808) : (z64 a).toInt = a := Int64.toInt_ofInt_of_le h1 h2
theorem z32_of (x : Int32) : z32 x.toInt = x := Int32.ofInt_toInt x
theorem z64_of (x : Int64) : z64 x.toInt = x := Int64.ofInt_toInt x
theorem z32_nat {a : Int} (h1 : -2147483648 ≤ a) (h2 : a < 2147483648) : (z32 a).toNatClampNeg = a.toNat := by
  show (z32 a).toInt.toNat = _
  rw [z32_int h1 h2]
theorem z32_lt {a b : Int} (h1 : -2147483648 ≤ a) (h2 : a < 2147483648) (h3 : -2147483648 ≤ b) (h4 : b < 2147483648) : (z32 a < z32 b) = (a < b) := by
  rw [Int32.lt_iff_toInt_lt, z32_int h1 h2, z32_int h3 h4]
theorem z32_le {a b : Int} (h1 : -2147483648 ≤ a) (h2 : a < 2147483648) (h3 : -2147483648 ≤ b) (h4 : b < 2147483648) : (z32 a ≤ z32 b) = (a ≤ b) := by
  rw [Int32.le_iff_toInt_le, z32_int h1 h2, z32_int h3 h4]
theorem z32_eq {a b : Int} (h1 : -2147483648 ≤ a) (h2 : a < 2147483648) (h3 : -2147483648 ≤ b) (h4 : b < 2147483648) : (z32 a = z32 b) = (a = b) := by
  rw [← Int32.toInt_inj, z32_int h1 h2, z32_int h3 h4]
theorem z64_lt {a b : Int} (h1 : -9223372036854775808 ≤ a) (h2 : a < 9223372036854775808) (h3 : -9223372036854775808 ≤ b) (h4 : b < 9223372036854775808) : (z64 a < z64 b) = (a < b) := by
  rw [Int64.lt_iff_toInt_lt, z64_int h1 h2, z64_int h3 h4]
theorem z64_le {a b : Int} (h1 : -9223372036854775808 ≤ a) (h2 : a < 9223372036854775808) (h3 : -9223372036854775808 ≤ b) (h4 : b < 9223372036854775808) : (z64 a ≤ z64 b) = (a ≤ b) := by
  rw [Int64.le_iff_toInt_le, z64_int h1 h2, z64_int h3 h4]
theorem z64_eq {a b : Int} (h1 : -9223372036854775808 ≤ a) (h2 : a < 9223372036854775808) (h3 : -9223372036854775808 ≤ b) (h4 : b < 9223372036854775808) : (z64 a = z64 b) = (a = b) := by
  rw [← Int64.toInt_inj, z64_int h1 h2, z64_int h3 h4]
theorem z32_64 {a : Int} (h1 : -2147483648 ≤ a) (h2 : a < 2147483648) : (z32 a).toInt64 = z64 a := by
  rw [← Int64.toInt_inj, Int32.toInt_toInt64, z32_int h1 h2, z64_int (by omega) (by omega)]
theorem z64_32 (a : Int) : (z64 a).toInt32 = z32 a := Int64.toInt32_ofInt
theorem z32_div {a b : Int} (h1 : 0 ≤ a) (h2 : a < 2147483648) (h3 : 0 < b) (h4 : b < 2147483648) : z32 a / z32 b = z32 (a / b) := by
  rw [← Int32.toInt_inj, Int32.toInt_div_of_ne_right]
  · rw [z32_int (by omega) h2, z32_int (by omega) h4, Int.tdiv_eq_ediv_of_nonneg h1]
    have := Int.ediv_le_self b h1
    have := Int.ediv_nonneg h1 (by omega : (0:Int) ≤ b)
    rw [z32_int (by omega) (by omega)]
    
  · intro h
    have := congrArg Int32.toInt h
    rw [z32_int (by omega) h4] at this
    have h6 : ((-1 : Int32)).toInt = -1 := by decide
    omega
theorem z32_rem {a b : Int} (h1 : 0 ≤ a) (h2 : a < 2147483648) (h3 : 0 < b) (h4 : b < 2147483648) : z32 a - z32 a / z32 b * z32 b = z32 (a % b) := by
  rw [z32_div h1 h2 h3 h4, z32_mul, z32_sub, Int.emod_def, Int.mul_comm]
def hI (σ : zS) (p : Nat) (i : Int) : Int := (σ.1 p i.toNat).toInt
def hL (σ : zS) (p : Nat) (i : Int) : Int := (σ.2.1 p i.toNat).toInt
theorem hI_lo (σ : zS) (p : Nat) (i : Int) : -2147483648 ≤ hI σ p i := Int32.le_toInt _
theorem hI_hi (σ : zS) (p : Nat) (i : Int) : hI σ p i < 2147483648 := Int32.toInt_lt _
theorem hL_lo (σ : zS) (p : Nat) (i : Int) : -9223372036854775808 ≤ hL σ p i := Int64.le_toInt _
theorem hL_hi (σ : zS) (p : Nat) (i : Int) : hL σ p i < 9223372036854775808 := Int64.toInt_lt _
theorem iG_h (σ : zS) (p m : Nat) : iG σ p (no_index (OfNat.ofNat m)) = z32 (hI σ p (no_index (OfNat.ofNat m))) := (z32_of _).symm
theorem lG_h (σ : zS) (p m : Nat) : lG σ p (no_index (OfNat.ofNat m)) = z64 (hL σ p (no_index (OfNat.ofNat m))) := (z64_of _).symm
def jS (σ : zS) (p : Nat) (i v : Int) : zS := iS σ p i.toNat (z32 v)
def kS (σ : zS) (p : Nat) (i v : Int) : zS := lS σ p i.toNat (z64 v)
theorem iS_j (σ : zS) (p m : Nat) (v : Int) : iS σ p (no_index (OfNat.ofNat m)) (z32 v) = jS σ p (no_index (OfNat.ofNat m)) v := rfl
theorem lS_k (σ : zS) (p m : Nat) (v : Int) : lS σ p (no_index (OfNat.ofNat m)) (z64 v) = kS σ p (no_index (OfNat.ofNat m)) v := rfl
theorem ixb_z {i : Int} {n : Nat} (h0 : 0 ≤ i) (h1 : i < n) (h2 : i < 2147483648) : ixb (z32 i) n = true := by
  unfold ixb
  rw [z32_int (by omega) h2]
  simp [h0, h1]
theorem aI_h {β : Type} {σ : zS} {p n : Nat} {i : Int} {F : Int32 → Option β} (h0 : 0 ≤ i) (h1 : i < n) (h2 : i < 2147483648) : aI σ p n (z32 i) F = F (z32 (hI σ p i)) := by
  unfold aI
  rw [if_pos (ixb_z h0 h1 h2), z32_nat (by omega) h2]
  exact congrArg F (z32_of _).symm
theorem aL_h {β : Type} {σ : zS} {p n : Nat} {i : Int} {F : Int64 → Option β} (h0 : 0 ≤ i) (h1 : i < n) (h2 : i < 2147483648) : aL σ p n (z32 i) F = F (z64 (hL σ p i)) := by
  unfold aL
  rw [if_pos (ixb_z h0 h1 h2), z32_nat (by omega) h2]
  exact congrArg F (z64_of _).symm
theorem wI_h {β : Type} {σ : zS} {p n : Nat} {i v : Int} {F : zS → Option β} (h0 : 0 ≤ i) (h1 : i < n) (h2 : i < 2147483648) : wI σ p n (z32 i) (z32 v) F = F (jS σ p i v) := by
  unfold wI
  rw [if_pos (ixb_z h0 h1 h2), z32_nat (by omega) h2]
  rfl
theorem wL_h {β : Type} {σ : zS} {p n : Nat} {i v : Int} {F : zS → Option β} (h0 : 0 ≤ i) (h1 : i < n) (h2 : i < 2147483648) : wL σ p n (z32 i) (z64 v) F = F (kS σ p i v) := by
  unfold wL
  rw [if_pos (ixb_z h0 h1 h2), z32_nat (by omega) h2]
  rfl
theorem hI_jS {σ : zS} {p : Nat} {i j v : Int} (h0 : 0 ≤ i) (h1 : 0 ≤ j) (h2 : -2147483648 ≤ v) (h3 : v < 2147483648) : hI (jS σ p i v) p j = if j = i then v else hI σ p j := by
  show (va_up σ.1 p (upd (σ.1 p) i.toNat (z32 v)) p j.toNat).toInt = _
  simp only [va_up, upd, if_true]
  by_cases h : j = i
  · subst h; simp only [if_true]; exact z32_int h2 h3
  · rw [if_neg h, if_neg (by omega)]; rfl
theorem hI_jS_ne {σ : zS} {p q : Nat} {i j v : Int} (h : q ≠ p) : hI (jS σ p i v) q j = hI σ q j := by
  show (va_up σ.1 p (upd (σ.1 p) i.toNat (z32 v)) q j.toNat).toInt = _
  simp only [va_up, if_neg h]; rfl
theorem hL_kS {σ : zS} {p : Nat} {i j v : Int} (h0 : 0 ≤ i) (h1 : 0 ≤ j) (h2 : -9223372036854775808 ≤ v) (h3 : v < 9223372036854775808) : hL (kS σ p i v) p j = if j = i then v else hL σ p j := by
  show (va_up σ.2.1 p (vp_updL (σ.2.1 p) i.toNat (z64 v)) p j.toNat).toInt = _
  simp only [va_up, vp_updL, if_true]
  by_cases h : j = i
  · subst h; simp only [if_true]; exact z64_int h2 h3
  · rw [if_neg h, if_neg (by omega)]; rfl
theorem hL_kS_ne {σ : zS} {p q : Nat} {i j v : Int} (h : q ≠ p) : hL (kS σ p i v) q j = hL σ q j := by
  show (va_up σ.2.1 p (vp_updL (σ.2.1 p) i.toNat (z64 v)) q j.toNat).toInt = _
  simp only [va_up, if_neg h]; rfl
theorem hI_kS (σ : zS) (p q : Nat) (i j v : Int) : hI (kS σ p i v) q j = hI σ q j := rfl
theorem hL_jS (σ : zS) (p q : Nat) (i j v : Int) : hL (jS σ p i v) q j = hL σ q j := rfl
theorem fl_jS (σ : zS) (p : Nat) (i v : Int) : (jS σ p i v).2.2 = σ.2.2 := rfl
theorem fl_kS (σ : zS) (p : Nat) (i v : Int) : (kS σ p i v).2.2 = σ.2.2 := rfl
theorem bnr_s {α β : Type} (x : α) (F : α → Option β) : bnr (some x) F = F x := rfl
theorem bnc_s {α β : Type} (x : α × zS) (F : α → zS → Option β) : bnc (some x) F = F x.1 x.2 := rfl
theorem gd_pos {β : Type} {c : Prop} [Decidable c] {F : Option β} (h : c) : gd c F = F := if_pos h
theorem rp_or (b : Bool) : rp b = 9 ∨ rp b = 38 := by cases b <;> simp [rp]
-- questions that are decided
theorem ieqT {a b : Int} (h : a = b) : (a = b) = True := eq_true h
theorem ieqF {a b : Int} (h : a ≠ b) : (a = b) = False := eq_false h
theorem iltT {a b : Int} (h : a < b) : (a < b) = True := eq_true h
theorem iltF {a b : Int} (h : ¬ a < b) : (a < b) = False := eq_false h
theorem ileT {a b : Int} (h : a ≤ b) : (a ≤ b) = True := eq_true h
theorem ileF {a b : Int} (h : ¬ a ≤ b) : (a ≤ b) = False := eq_false h
-- sums in order
def zsN (g : Int → Int) : Nat → Int
  | 0 => 0
  | n + 1 => zsN g n + g n
def zs (g : Int → Int) (k : Int) : Int := zsN g k.toNat
theorem zs_0 (g : Int → Int) : zs g 0 = 0 := rfl
theorem zs_s {g : Int → Int} {k : Int} (h : 0 ≤ k) : zs g (k + 1) = zs g k + g k := by
  obtain ⟨n, rfl⟩ := Int.eq_ofNat_of_zero_le h
  show zsN g (((n : Int) + 1).toNat) = zsN g ((n : Int).toNat) + g n
  rw [show ((n : Int) + 1).toNat = n + 1 by omega, show ((n : Int)).toNat = n by omega]
  rfl
theorem zsN_b {g : Int → Int} {a b : Int} {m : Int} (n : Nat) (hn : n ≤ m) (h : ∀ i : Int, 0 ≤ i → i < m → a ≤ g i ∧ g i ≤ b) : a * n ≤ zsN g n ∧ zsN g n ≤ b * n := by
  induction n with
  | zero => simp [zsN]
  | succ n ih =>
    have := ih (by omega)
    have := h n (by omega) (by omega)
    simp only [zsN]
    rw [show ((n + 1 : Nat) : Int) = (n : Int) + 1 by omega, Int.mul_add, Int.mul_add]
    omega
theorem zs_b {g : Int → Int} {a b k : Int} (hk : 0 ≤ k) (h : ∀ i : Int, 0 ≤ i → i < k → a ≤ g i ∧ g i ≤ b) : a * k ≤ zs g k ∧ zs g k ≤ b * k := by
  obtain ⟨n, rfl⟩ := Int.eq_ofNat_of_zero_le hk
  have := zsN_b (m := n) n (Int.le_refl _) h
  simpa [zs] using this
theorem zsN_c {g g' : Int → Int} (n : Nat) (h : ∀ i : Int, 0 ≤ i → i < n → g i = g' i) : zsN g n = zsN g' n := by
  induction n with
  | zero => rfl
  | succ n ih =>
    simp only [zsN]
    rw [ih (fun i h1 h2 => h i h1 (by omega)), h n (by omega) (by omega)]
theorem zs_c {g g' : Int → Int} {k : Int} (h : ∀ i : Int, 0 ≤ i → i < k → g i = g' i) : zs g k = zs g' k := by
  unfold zs
  exact zsN_c _ (fun i h1 h2 => h i h1 (by omega))
-- loops that count up: the counter is the last but for the rest
theorem zup {α β : Type} {L : Nat → Int → α → Option β} {n : Int} {w : Option β} (G : Int → α) (hs : ∀ (f : Nat) (k : Int), 0 ≤ k → k < n → L (f + 1) k (G k) = L f (k + 1) (G (k + 1))) (he : ∀ f : Nat, L (f + 1) n (G n) = w) : ∀ (d : Nat) (k : Int) (f : Nat), k + d = n → 0 ≤ k → d < f → L f k (G k) = w := by
  intro d
  induction d with
  | zero =>
    intro k f hk hk0 hf
    obtain ⟨g, rfl⟩ : ∃ g, f = g + 1 := ⟨f - 1, by omega⟩
    have : k = n := by omega
    subst this
    exact he g
  | succ d ih =>
    intro k f hk hk0 hf
    obtain ⟨g, rfl⟩ : ∃ g, f = g + 1 := ⟨f - 1, by omega⟩
    rw [hs g k hk0 (by omega)]
    exact ih (k + 1) g (by omega) (by omega) (by omega)
theorem zup0 {α β : Type} {L : Nat → Int → α → Option β} {n : Int} {w : Option β} (G : Int → α) (h0 : 0 ≤ n) (h1 : n < 1000000) (hs : ∀ (f : Nat) (k : Int), 0 ≤ k → k < n → L (f + 1) k (G k) = L f (k + 1) (G (k + 1))) (he : ∀ f : Nat, L (f + 1) n (G n) = w) : L zF 0 (G 0) = w :=
  zup G hs he n.toNat 0 zF (by omega) (by omega) (by unfold zF; omega)
/-- the same with a promise P that the rounds keep -/
theorem zupP {α β : Type} {L : Nat → Int → α → Option β} {n : Int} {Q : Option β → Prop} (P : Int → α → Prop) (hs : ∀ (f : Nat) (k : Int) (a : α), 0 ≤ k → k < n → P k a → ∃ a', L (f + 1) k a = L f (k + 1) a' ∧ P (k + 1) a') (he : ∀ (f : Nat) (a : α), P n a → Q (L (f + 1) n a)) : ∀ (d : Nat) (k : Int) (a : α) (f : Nat), k + d = n → 0 ≤ k → d < f → P k a → Q (L f k a) := by
  intro d
  induction d with
  | zero =>
    intro k a f hk hk0 hf hp
    obtain ⟨g, rfl⟩ : ∃ g, f = g + 1 := ⟨f - 1, by omega⟩
    have : k = n := by omega
    subst this
    exact he g a hp
  | succ d ih =>
    intro k a f hk hk0 hf hp
    obtain ⟨g, rfl⟩ : ∃ g, f = g + 1 := ⟨f - 1, by omega⟩
    obtain ⟨a', h1, h2⟩ := hs g k a hk0 (by omega) hp
    rw [h1]
    exact ih (k + 1) a' g (by omega) (by omega) (by omega) h2
theorem zupP0 {α β : Type} {L : Nat → Int → α → Option β} {n : Int} {Q : Option β → Prop} (P : Int → α → Prop) {a : α} (h0 : 0 ≤ n) (h1 : n < 1000000) (hp : P 0 a) (hs : ∀ (f : Nat) (k : Int) (a : α), 0 ≤ k → k < n → P k a → ∃ a', L (f + 1) k a = L f (k + 1) a' ∧ P (k + 1) a') (he : ∀ (f : Nat) (a : α), P n a → Q (L (f + 1) n a)) : Q (L zF 0 a) :=
  zupP P hs he n.toNat 0 a zF (by omega) (by omega) (by unfold zF; omega) hp

/-! MY OWN: rows read and written at places that were looked at first; what goes through there goes through here -/
theorem bq_ix {i : Int32} {n : Nat} (hn : n ≤ 2147483647) (h : ixb i n = true) : ¬ i < 0 ∧ ¬ Int32.ofNat n ≤ i := by
  simp only [ixb, Bool.and_eq_true, decide_eq_true_eq] at h
  have h0 : (0 : Int32).toInt = 0 := by decide
  rw [Int32.lt_iff_toInt_lt, Int32.le_iff_toInt_le, Int32.toInt_ofNat_of_lt (by omega), h0]
  omega
theorem bq_xi {i : Int32} {n : Nat} (hn : n ≤ 2147483647) (h1 : ¬ i < 0) (h2 : ¬ Int32.ofNat n ≤ i) : ixb i n = true := by
  simp only [ixb, Bool.and_eq_true, decide_eq_true_eq]
  have h0 : (0 : Int32).toInt = 0 := by decide
  rw [Int32.lt_iff_toInt_lt, h0] at h1
  rw [Int32.le_iff_toInt_le, Int32.toInt_ofNat_of_lt (by omega)] at h2
  omega
theorem bq_aI {β : Type} {σ : zS} {p n : Nat} {i : Int32} {F : Int32 → Option β} {w : β} (h : aI σ p n i F = some w) : ixb i n = true ∧ F (iG σ p i.toNatClampNeg) = some w := by
  unfold aI at h
  split at h
  · exact ⟨by assumption, h⟩
  · cases h
theorem bq_aL {β : Type} {σ : zS} {p n : Nat} {i : Int32} {F : Int64 → Option β} {w : β} (h : aL σ p n i F = some w) : ixb i n = true ∧ F (lG σ p i.toNatClampNeg) = some w := by
  unfold aL at h
  split at h
  · exact ⟨by assumption, h⟩
  · cases h
theorem bq_wI {β : Type} {σ : zS} {p n : Nat} {i v : Int32} {F : zS → Option β} {w : β} (h : wI σ p n i v F = some w) : ixb i n = true ∧ F (iS σ p i.toNatClampNeg v) = some w := by
  unfold wI at h
  split at h
  · exact ⟨by assumption, h⟩
  · cases h
theorem bq_wL {β : Type} {σ : zS} {p n : Nat} {i : Int32} {v : Int64} {F : zS → Option β} {w : β} (h : wL σ p n i v F = some w) : ixb i n = true ∧ F (lS σ p i.toNatClampNeg v) = some w := by
  unfold wL at h
  split at h
  · exact ⟨by assumption, h⟩
  · cases h
theorem bq_aIi {β : Type} {σ : zS} {p n : Nat} {i : Int32} {F : Int32 → Option β} (h : ixb i n = true) : aI σ p n i F = F (iG σ p i.toNatClampNeg) := if_pos h
theorem bq_aLi {β : Type} {σ : zS} {p n : Nat} {i : Int32} {F : Int64 → Option β} (h : ixb i n = true) : aL σ p n i F = F (lG σ p i.toNatClampNeg) := if_pos h
theorem bq_wIi {β : Type} {σ : zS} {p n : Nat} {i v : Int32} {F : zS → Option β} (h : ixb i n = true) : wI σ p n i v F = F (iS σ p i.toNatClampNeg v) := if_pos h
theorem bq_wLi {β : Type} {σ : zS} {p n : Nat} {i : Int32} {v : Int64} {F : zS → Option β} (h : ixb i n = true) : wL σ p n i v F = F (lS σ p i.toNatClampNeg v) := if_pos h
theorem bq_bnr {α β : Type} {x : Option α} {F : α → Option β} {r : α} (e : x = some r) : bnr x F = F r := by
  rw [e]
  rfl
theorem bq_bnc {α β : Type} {x : Option (α × zS)} {F : α → zS → Option β} {r : α} {σ : zS} (e : x = some (r, σ)) : bnc x F = F r σ := by
  rw [e]
  rfl
theorem bq_get (σ : zS) (p k : Nat) (v : Int32) : iG (iS σ p k v) p k = v := by
  simp [iG, iS, va_up, upd]
theorem bq_add (a b : Int32) (h : -2147483648 ≤ a.toInt + b.toInt) (h' : a.toInt + b.toInt < 2147483648) : (a + b).toInt = a.toInt + b.toInt := by
  have e : a + b = Int32.ofInt (a.toInt + b.toInt) := by rw [Int32.ofInt_add, Int32.ofInt_toInt, Int32.ofInt_toInt]
  rw [e, Int32.toInt_ofInt_of_le h h']
/-- where the one answers, the other answers so -/
def zLe {α : Type} (a b : Option α) : Prop := ∀ w, a = some w → b = some w
theorem zLe.rfl {α : Type} {a : Option α} : zLe a a := fun _ h => h
theorem zLe.bnr {α β : Type} {x : Option α} {F G : α → Option β} (h : ∀ r, zLe (F r) (G r)) : zLe (bnr x F) (bnr x G) := by
  intro w e
  obtain ⟨r, e1, e2⟩ := bnr_some e
  rw [bq_bnr e1]
  exact h r w e2
theorem zLe.bnc {α β : Type} {x : Option (α × zS)} {F G : α → zS → Option β} (h : ∀ r σ, zLe (F r σ) (G r σ)) : zLe (bnc x F) (bnc x G) := by
  intro w e
  obtain ⟨r, σ, e1, e2⟩ := bnc_some e
  rw [bq_bnc e1]
  exact h r σ w e2
theorem zLe.aI {β : Type} {σ : zS} {p n : Nat} {i : Int32} {F G : Int32 → Option β} (h : ∀ v, zLe (F v) (G v)) : zLe (aI σ p n i F) (aI σ p n i G) := by
  intro w e
  obtain ⟨e1, e2⟩ := bq_aI e
  rw [bq_aIi e1]
  exact h _ w e2
theorem zLe.ite {β : Type} {c : Prop} [Decidable c] {a b a' b' : Option β} (h : zLe a a') (h' : zLe b b') : zLe (if c then a else b) (if c then a' else b') := by
  by_cases e : c
  · rw [if_pos e, if_pos e]
    exact h
  · rw [if_neg e, if_neg e]
    exact h'

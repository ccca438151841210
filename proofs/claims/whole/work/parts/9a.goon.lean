/-! MY OWN: an image put on: the one side -/
def scv (A : zS) (q : Int) : Int := tx A q * 65536 + tx A (q + 1) * 256 + tx A (q + 2) - 100000
/-- the bytes of a holder can be -/
def hOK (A : zS) (T q : Int) : Prop := tx A q ≤ 60 ∧ tx A (q + 1) ≤ 60 ∧ (-99999 ≤ scv A (q + 2) ∧ scv A (q + 2) ≤ 99999) ∧ ∀ k, 0 ≤ k → k < T → tx A (q + 5 + k) ≤ 60
/-- the tape is an image of this road -/
def GOO (A : zS) : Prop := hI A 2 1 = 1 + vH A * (5 + vT A) + 1 ∧ ckN (tx A) (1 + vH A * (5 + vT A)).toNat = tx A (1 + vH A * (5 + vT A)) ∧ (tx A 0 = 0 ∨ tx A 0 < vT A) ∧ ∀ h, 0 ≤ h → h < vH A → hOK A (vT A) (1 + h * (5 + vT A))
section GC
variable {A B a b σ τ : zS} {T H E L q x v w u : Int}
theorem pk3 (h1 : 0 ≤ u ∧ u ≤ 255) (h2 : 0 ≤ v ∧ v ≤ 255) (h3 : 0 ≤ w ∧ w ≤ 255) : ((z32 u <<< (16 &&& 31)) ||| (z32 v <<< (8 &&& 31))) ||| z32 w = z32 (u * 65536 + v * 256 + w) := by
  obtain ⟨u', rfl⟩ := Int.eq_ofNat_of_zero_le h1.1
  obtain ⟨v', rfl⟩ := Int.eq_ofNat_of_zero_le h2.1
  obtain ⟨w', rfl⟩ := Int.eq_ofNat_of_zero_le h3.1
  have o1 : u' * 2 ^ 16 ||| v' * 2 ^ 8 = 2 ^ 8 * (u' * 256 + v') := by
    rw [Nat.mul_comm u' (2 ^ 16), ← Nat.two_pow_add_eq_or_of_lt (i := 16) (b := v' * 2 ^ 8) (by omega) u']
    omega
  have o2 : 2 ^ 8 * (u' * 256 + v') ||| w' = 2 ^ 8 * (u' * 256 + v') + w' := (Nat.two_pow_add_eq_or_of_lt (i := 8) (b := w') (by omega) (u' * 256 + v')).symm
  rw [show z32 (u' : Int) = nI u' from (z32_ofNat u').symm, show z32 (v' : Int) = nI v' from (z32_ofNat v').symm, show z32 (w' : Int) = nI w' from (z32_ofNat w').symm, pk_shlN (n := u') (16 &&& 31) 16 (by decide) (by omega), pk_shlN (n := v') (8 &&& 31) 8 (by decide) (by omega), or_n, or_n, o1, o2, show nI (2 ^ 8 * (u' * 256 + v') + w') = z32 ((2 ^ 8 * (u' * 256 + v') + w' : Nat) : Int) from z32_ofNat _]
  congr 1
  omega
theorem scv_b : -100000 ≤ scv A q ∧ scv A q ≤ 17000000 := by
  have b1 := tx_b A q
  have b2 := tx_b A (q + 1)
  have b3 := tx_b A (q + 2)
  unfold scv
  omega
theorem scA_z (h0 : 0 ≤ q) (h1 : q + 2 < hI A 2 1) (h2 : hI A 2 1 ≤ 1600) : fX3_scoreAt A (z32 q) = some (z32 (scv A q)) := by
  unfold fX3_scoreAt
  rw [bytA_z h0 (by omega) h2, bnr_q, show (1 : Int32) = z32 1 from z32_litn 1, z32_add, bytA_z (by omega) (by omega) h2, bnr_q, show (2 : Int32) = z32 2 from z32_litn 2, z32_add, bytA_z (by omega) (by omega) h2, bnr_q, pk3 (tx_b _ _) (tx_b _ _) (tx_b _ _), show (100000 : Int32) = z32 100000 from z32_litn 100000, z32_sub]
  rfl
theorem i51_g (h0 : 0 ≤ q) (h1 : q + 5 + T ≤ hI A 2 1) (h2 : hI A 2 1 ≤ 1600) (hT : 0 ≤ T ∧ T ≤ 6) : ∀ (d : Nat) (k : Int) (f : Nat), k + d = T → 0 ≤ k → d < f → (∀ i, k ≤ i → i < T → tx A (q + 5 + i) ≤ 60) → fX3_isHolderAt_51 A f (z32 q) (z32 T) (z32 k) = some (z32 1) := by
  intro d
  induction d with
  | zero =>
    intro k f hk k0 hf g
    obtain ⟨f', rfl⟩ : ∃ f', f = f' + 1 := ⟨f - 1, by omega⟩
    rw [fX3_isHolderAt_51, if_pos (by rw [z32_le (by omega) (by omega) (by omega) (by omega)]; omega), z32_litn]
  | succ d ih =>
    intro k f hk k0 hf g
    obtain ⟨f', rfl⟩ : ∃ f', f = f' + 1 := ⟨f - 1, by omega⟩
    have b1 := tx_b A (q + 5 + k)
    rw [fX3_isHolderAt_51, if_neg (by rw [z32_le (by omega) (by omega) (by omega) (by omega)]; omega), show (5 : Int32) = z32 5 from z32_litn 5, z32_add, z32_add, bytA_z (by omega) (by omega) h2, bnr_q, isS_p b1.1 (g k (Int.le_refl k) (by omega)), if_neg (by rw [z32_litn, z32_eq (by omega) (by omega) (by omega) (by omega)]; omega), z1p]
    exact ih (k + 1) f' (by omega) (by omega) (by omega) (fun i w0 w1 => g i (by omega) w1)
theorem i51_b (h0 : 0 ≤ q) (h1 : q + 5 + T ≤ hI A 2 1) (h2 : hI A 2 1 ≤ 1600) (hT : 0 ≤ T ∧ T ≤ 6) : ∀ (d : Nat) (k : Int) (f : Nat), k + d = T → 0 ≤ k → d < f → (∃ i, k ≤ i ∧ i < T ∧ ¬ tx A (q + 5 + i) ≤ 60) → fX3_isHolderAt_51 A f (z32 q) (z32 T) (z32 k) = some (z32 0) := by
  intro d
  induction d with
  | zero =>
    intro k f hk k0 hf g
    obtain ⟨i, g1, g2, -⟩ := g
    omega
  | succ d ih =>
    intro k f hk k0 hf g
    obtain ⟨f', rfl⟩ : ∃ f', f = f' + 1 := ⟨f - 1, by omega⟩
    have b1 := tx_b A (q + 5 + k)
    rw [fX3_isHolderAt_51, if_neg (by rw [z32_le (by omega) (by omega) (by omega) (by omega)]; omega), show (5 : Int32) = z32 5 from z32_litn 5, z32_add, z32_add, bytA_z (by omega) (by omega) h2, bnr_q]
    by_cases g1 : tx A (q + 5 + k) ≤ 60
    · rw [isS_p b1.1 g1, if_neg (by rw [z32_litn, z32_eq (by omega) (by omega) (by omega) (by omega)]; omega), z1p]
      obtain ⟨i, w1, w2, w3⟩ := g
      refine ih (k + 1) f' (by omega) (by omega) (by omega) ⟨i, ?_, w2, w3⟩
      by_cases gi : i = k
      · rw [gi] at w3; exact absurd g1 w3
      · omega
    · rw [isS_n (by omega) (by omega) (by omega), if_pos (by rw [z32_litn]), z32_litn]
theorem iHA_g (h0 : 0 ≤ q) (h1 : q + 5 + T ≤ hI A 2 1) (h2 : hI A 2 1 ≤ 1600) (hT : 0 ≤ T ∧ T ≤ 6) (ok : hOK A T q) : fX3_isHolderAt A (z32 q) (z32 T) = some (z32 1) := by
  obtain ⟨o1, o2, o3, o4⟩ := ok
  have b1 := tx_b A q
  have b2 := tx_b A (q + 1)
  obtain ⟨d, hd⟩ : ∃ d : Nat, (0 : Int) + d = T := ⟨T.toNat, by omega⟩
  unfold fX3_isHolderAt
  rw [bytA_z h0 (by omega) h2, bnr_q, isS_p b1.1 o1, if_neg (by rw [z32_litn, z32_eq (by omega) (by omega) (by omega) (by omega)]; omega), z1p, bytA_z (by omega) (by omega) h2, bnr_q, isS_p b2.1 o2, if_neg (by rw [z32_litn, z32_eq (by omega) (by omega) (by omega) (by omega)]; omega), show (2 : Int32) = z32 2 from z32_litn 2, z32_add, scA_z (by omega) (by omega) h2, bnr_q, if_neg (by rw [z32_litn, z32_neg, z32_lt (by omega) (by omega) (by omega) (by omega)]; omega), if_pos (by rw [z32_litn, z32_le (by omega) (by omega) (by omega) (by omega)]; omega), show (0 : Int32) = z32 0 from z32_litn 0]
  exact i51_g h0 h1 h2 hT d 0 zF hd (by omega) (by unfold zF; omega) o4
theorem nex {P : Int → Prop} {n : Int} (h : ¬ ∀ i, 0 ≤ i → i < n → P i) : ∃ i, 0 ≤ i ∧ i < n ∧ ¬ P i := by
  apply Classical.byContradiction
  intro w
  exact h (fun i g0 g1 => Classical.byContradiction (fun g => w ⟨i, g0, g1, g⟩))
theorem iHA_b (h0 : 0 ≤ q) (h1 : q + 5 + T ≤ hI A 2 1) (h2 : hI A 2 1 ≤ 1600) (hT : 0 ≤ T ∧ T ≤ 6) (ok : ¬ hOK A T q) : fX3_isHolderAt A (z32 q) (z32 T) = some (z32 0) := by
  have b1 := tx_b A q
  have b2 := tx_b A (q + 1)
  have sb := scv_b (A := A) (q := q + 2)
  obtain ⟨d, hd⟩ : ∃ d : Nat, (0 : Int) + d = T := ⟨T.toNat, by omega⟩
  unfold fX3_isHolderAt
  rw [bytA_z h0 (by omega) h2, bnr_q]
  by_cases o1 : tx A q ≤ 60
  · rw [isS_p b1.1 o1, if_neg (by rw [z32_litn, z32_eq (by omega) (by omega) (by omega) (by omega)]; omega), z1p, bytA_z (by omega) (by omega) h2, bnr_q]
    by_cases o2 : tx A (q + 1) ≤ 60
    · rw [isS_p b2.1 o2, if_neg (by rw [z32_litn, z32_eq (by omega) (by omega) (by omega) (by omega)]; omega), show (2 : Int32) = z32 2 from z32_litn 2, z32_add, scA_z (by omega) (by omega) h2, bnr_q]
      by_cases o3 : -99999 ≤ scv A (q + 2)
      · rw [if_neg (by rw [z32_litn, z32_neg, z32_lt (by omega) (by omega) (by omega) (by omega)]; omega)]
        by_cases o4 : scv A (q + 2) ≤ 99999
        · rw [if_pos (by rw [z32_litn, z32_le (by omega) (by omega) (by omega) (by omega)]; omega), show (0 : Int32) = z32 0 from z32_litn 0]
          have bad := nex (P := fun k => tx A (q + 5 + k) ≤ 60) (n := T) (fun w => ok ⟨o1, o2, ⟨o3, o4⟩, w⟩)
          exact i51_b h0 h1 h2 hT d 0 zF hd (by omega) (by unfold zF; omega) bad
        · rw [if_neg (by rw [z32_litn, z32_le (by omega) (by omega) (by omega) (by omega)]; omega), z32_litn]
      · rw [if_pos (by rw [z32_litn, z32_neg, z32_lt (by omega) (by omega) (by omega) (by omega)]; omega), z32_litn]
    · rw [isS_n (by omega) (by omega) (by omega), if_pos (by rw [z32_litn]), z32_litn]
  · rw [isS_n (by omega) (by omega) (by omega), if_pos (by rw [z32_litn]), z32_litn]
theorem mulE (h0 : 0 ≤ x) (h1 : x < H) (hE : 0 ≤ E) : 0 ≤ x * E ∧ x * E + E ≤ H * E := by
  have a1 := Int.mul_nonneg h0 hE
  have a2 := Int.mul_le_mul_of_nonneg_right (show x + 1 ≤ H by omega) hE
  rw [Int.add_mul, Int.one_mul] at a2
  exact ⟨a1, a2⟩
theorem mulL (h0 : 0 ≤ H) (h1 : H ≤ 6) (hE : 0 ≤ E) (hE' : E ≤ 11) : 0 ≤ H * E ∧ H * E ≤ 66 := by
  have a1 := Int.mul_nonneg h0 hE
  have a2 := Int.mul_le_mul h1 hE' hE (by omega)
  omega
theorem i89_g (hR : okR A) (h1 : hI A 2 1 = 1 + vH A * (5 + vT A) + 1) : ∀ (d : Nat) (x : Int) (f : Nat), x + d = vH A → 0 ≤ x → d < f → (∀ h, x ≤ h → h < vH A → hOK A (vT A) (1 + h * (5 + vT A))) → fX3_isOf_89 A.2.2.2.1 A f (z32 x) = some (z32 1) := by
  have hH := hR.2.1
  have hT := hR.1
  have eH : iG A (rp A.2.2.2.1 + 0) 2 = z32 (vH A) := iG_h A _ 2
  have eT : iG A (rp A.2.2.2.1 + 0) 1 = z32 (vT A) := iG_h A _ 1
  have LL := mulL hH.1 hH.2 (E := 5 + vT A) (by omega) (by omega)
  intro d
  induction d with
  | zero =>
    intro x f hx h0 hf g
    obtain ⟨f', rfl⟩ : ∃ f', f = f' + 1 := ⟨f - 1, by omega⟩
    rw [fX3_isOf_89, eH, if_pos (by rw [z32_le (by omega) (by omega) (by omega) (by omega)]; omega), z32_litn]
  | succ d ih =>
    intro x f hx h0 hf g
    obtain ⟨f', rfl⟩ : ∃ f', f = f' + 1 := ⟨f - 1, by omega⟩
    have xE := mulE h0 (show x < vH A by omega) (E := 5 + vT A) (by omega)
    have ok := g x (Int.le_refl x) (by omega)
    rw [fX3_isOf_89, eH, if_neg (by rw [z32_le (by omega) (by omega) (by omega) (by omega)]; omega)]
    unfold fX3_holderSize
    rw [eT, show (5 : Int32) = z32 5 from z32_litn 5, z32_add, z32_mul, show (1 : Int32) = z32 1 from z32_litn 1, z32_add]
    obtain ⟨y, hy⟩ : ∃ y, y = x * (5 + vT A) := ⟨_, rfl⟩
    obtain ⟨z, hz⟩ : ∃ z, z = vH A * (5 + vT A) := ⟨_, rfl⟩
    rw [← hy] at xE ok ⊢
    rw [← hz] at xE LL h1
    rw [iHA_g (by omega) (by omega) (by omega) hT ok, bnr_q, if_neg (by rw [z32_litn, z32_eq (by omega) (by omega) (by omega) (by omega)]; omega), z32_add]
    exact ih (x + 1) f' (by omega) (by omega) (by omega) (fun i w0 w1 => g i (by omega) w1)
theorem i89_b (hR : okR A) (h1 : hI A 2 1 = 1 + vH A * (5 + vT A) + 1) : ∀ (d : Nat) (x : Int) (f : Nat), x + d = vH A → 0 ≤ x → d < f → (∃ h, x ≤ h ∧ h < vH A ∧ ¬ hOK A (vT A) (1 + h * (5 + vT A))) → fX3_isOf_89 A.2.2.2.1 A f (z32 x) = some (z32 0) := by
  have hH := hR.2.1
  have hT := hR.1
  have eH : iG A (rp A.2.2.2.1 + 0) 2 = z32 (vH A) := iG_h A _ 2
  have eT : iG A (rp A.2.2.2.1 + 0) 1 = z32 (vT A) := iG_h A _ 1
  have LL := mulL hH.1 hH.2 (E := 5 + vT A) (by omega) (by omega)
  intro d
  induction d with
  | zero =>
    intro x f hx h0 hf g
    obtain ⟨i, g1, g2, -⟩ := g
    omega
  | succ d ih =>
    intro x f hx h0 hf g
    obtain ⟨f', rfl⟩ : ∃ f', f = f' + 1 := ⟨f - 1, by omega⟩
    have xE := mulE h0 (show x < vH A by omega) (E := 5 + vT A) (by omega)
    rw [fX3_isOf_89, eH, if_neg (by rw [z32_le (by omega) (by omega) (by omega) (by omega)]; omega)]
    unfold fX3_holderSize
    rw [eT, show (5 : Int32) = z32 5 from z32_litn 5, z32_add, z32_mul, show (1 : Int32) = z32 1 from z32_litn 1, z32_add]
    by_cases ok : hOK A (vT A) (1 + x * (5 + vT A))
    · have e := iHA_g (A := A) (q := 1 + x * (5 + vT A)) (T := vT A) (by omega) (by omega) (by omega) hT ok
      rw [e, bnr_q, if_neg (by rw [z32_litn, z32_eq (by omega) (by omega) (by omega) (by omega)]; omega), z32_add]
      obtain ⟨i, w1, w2, w3⟩ := g
      refine ih (x + 1) f' (by omega) (by omega) (by omega) ⟨i, ?_, w2, w3⟩
      by_cases gi : i = x
      · rw [gi] at w3; exact absurd ok w3
      · omega
    · have e := iHA_b (A := A) (q := 1 + x * (5 + vT A)) (T := vT A) (by omega) (by omega) (by omega) hT ok
      rw [e, bnr_q, if_pos (by rw [z32_litn]), z32_litn]
theorem i30_z (dd : Bool) {N : Int} (h0 : 0 ≤ N) (h1 : N < hI A 2 1) (h2 : hI A 2 1 ≤ 1600) : fX3_isOf_30 dd A zF (z32 N) (z32 107) (z32 0) = fX3_isOf_30 dd A (0 + 1) (z32 N) (z32 (ckN (tx A) N.toNat)) (z32 N) := by
  refine zup0 (L := fun f k (c : Int) => fX3_isOf_30 dd A f (z32 N) (z32 c) (z32 k)) (n := N) (fun k => ckN (tx A) k.toNat) h0 (by omega) ?_ ?_
  · intro f k gk gk'
    obtain ⟨m, rfl⟩ := Int.eq_ofNat_of_zero_le gk
    show fX3_isOf_30 dd A (f + 1) (z32 N) (z32 (ckN (tx A) ((m : Int)).toNat)) (z32 (m : Int)) = fX3_isOf_30 dd A f (z32 N) (z32 (ckN (tx A) ((m : Int) + 1).toNat)) (z32 ((m : Int) + 1))
    rw [show ((m : Int)).toNat = m by omega, show ((m : Int) + 1).toNat = m + 1 by omega, fX3_isOf_30, if_neg (by rw [z32_le (by omega) (by omega) (by omega) (by omega)]; omega), bytA_z gk (by omega) h2, bnr_q, chk_z (ckN_b _ m) (tx_b _ _), z1p]
    rfl
  · intro f
    show fX3_isOf_30 dd A (f + 1) (z32 N) (z32 (ckN (tx A) N.toNat)) (z32 N) = fX3_isOf_30 dd A (0 + 1) (z32 N) (z32 (ckN (tx A) N.toNat)) (z32 N)
    rw [fX3_isOf_30, fX3_isOf_30, if_pos (by rw [z32_le (by omega) (by omega) (by omega) (by omega)]; omega), if_pos (by rw [z32_le (by omega) (by omega) (by omega) (by omega)]; omega)]
theorem isOf_z (hR : okR A) (h2 : 0 ≤ hI A 2 1 ∧ hI A 2 1 ≤ 1600) : (GOO A → fX3_isOf A.2.2.2.1 A = some (z32 1)) ∧ (¬ GOO A → fX3_isOf A.2.2.2.1 A = some (z32 0)) := by
  have hH := hR.2.1
  have hT := hR.1
  have eH : iG A (rp A.2.2.2.1 + 0) 2 = z32 (vH A) := iG_h A _ 2
  have eT : iG A (rp A.2.2.2.1 + 0) 1 = z32 (vT A) := iG_h A _ 1
  have eS : iG A 2 1 = z32 (hI A 2 1) := iG_h A 2 1
  have LL := mulL hH.1 hH.2 (E := 5 + vT A) (by omega) (by omega)
  obtain ⟨d, hd⟩ : ∃ d : Nat, (0 : Int) + d = vH A := ⟨(vH A).toNat, by omega⟩
  have e0 : fX3_isOf A.2.2.2.1 A = if z32 (hI A 2 1) = z32 (1 + vH A * (5 + vT A) + 1) then fX3_isOf_30 A.2.2.2.1 A zF (z32 (1 + vH A * (5 + vT A))) (z32 107) (z32 0) else some (z32 0) := by
    unfold fX3_isOf fX3_holderSize
    rw [eS, eH, eT, show (5 : Int32) = z32 5 from z32_litn 5, z32_add, z32_mul, show (1 : Int32) = z32 1 from z32_litn 1, z32_add, z32_add, show (107 : Int32) = z32 107 from z32_litn 107, show (0 : Int32) = z32 0 from z32_litn 0]
  have tl : hI A 2 1 = 1 + vH A * (5 + vT A) + 1 → fX3_isOf A.2.2.2.1 A = if z32 (ckN (tx A) (1 + vH A * (5 + vT A)).toNat) = z32 (tx A (1 + vH A * (5 + vT A))) then (if z32 (tx A 0) = 0 then fX3_isOf_86 A.2.2.2.1 A else if fX6_hasTunnel A.2.2.2.1 A (z32 (tx A 0)) = 0 then some 0 else fX3_isOf_86 A.2.2.2.1 A) else some 0 := fun g => by
    rw [e0, if_pos (by rw [g]), i30_z _ (by omega) (by omega) (by omega), fX3_isOf_30, if_pos (by rw [z32_le (by omega) (by omega) (by omega) (by omega)]; omega), bytA_z (by omega) (by omega) (by omega), bnr_q, show fX9_byteAt A 0 = some (z32 (tx A 0)) by rw [show (0 : Int32) = z32 0 from z32_litn 0]; exact bytA_z (by omega) (by omega) (by omega), bnr_q, bnr_q]
  have cb := ckN_b (tx A) (1 + vH A * (5 + vT A)).toNat
  have tb := tx_b A (1 + vH A * (5 + vT A))
  have t0 := tx_b A 0
  have e86 : fX3_isOf_86 A.2.2.2.1 A = fX3_isOf_89 A.2.2.2.1 A zF (z32 0) := by
    unfold fX3_isOf_86
    rw [show (0 : Int32) = z32 0 from z32_litn 0]
  constructor
  · intro G
    obtain ⟨g1, g2, g3, g4⟩ := G
    rw [tl g1, if_pos (by rw [g2]), e86, i89_g hR g1 d 0 zF hd (by omega) (by unfold zF; omega) g4]
    by_cases z0 : tx A 0 = 0
    · rw [if_pos (by rw [z0, z32_litn])]
    · rw [if_neg (by rw [z32_litn, z32_eq (by omega) (by omega) (by omega) (by omega)]; exact z0), hasT_p t0.1 (by omega), if_neg (by rw [z32_litn, z32_eq (by omega) (by omega) (by omega) (by omega)]; omega)]
  · intro G
    by_cases g1 : hI A 2 1 = 1 + vH A * (5 + vT A) + 1
    · rw [tl g1]
      by_cases g2 : ckN (tx A) (1 + vH A * (5 + vT A)).toNat = tx A (1 + vH A * (5 + vT A))
      · rw [if_pos (by rw [g2])]
        by_cases g3 : tx A 0 = 0 ∨ tx A 0 < vT A
        · have bad := nex (P := fun h => hOK A (vT A) (1 + h * (5 + vT A))) (n := vH A) (fun w => G ⟨g1, g2, g3, w⟩)
          rw [e86, i89_b hR g1 d 0 zF hd (by omega) (by unfold zF; omega) bad]
          by_cases z0 : tx A 0 = 0
          · rw [if_pos (by rw [z0, z32_litn])]
          · rw [if_neg (by rw [z32_litn, z32_eq (by omega) (by omega) (by omega) (by omega)]; exact z0), hasT_p t0.1 (by omega), if_neg (by rw [z32_litn, z32_eq (by omega) (by omega) (by omega) (by omega)]; omega)]
        · rw [if_neg (by rw [z32_litn, z32_eq (by omega) (by omega) (by omega) (by omega)]; omega), hasT_n (by omega) (by omega) (by omega), if_pos (by rw [z32_litn]), z32_litn]
      · rw [if_neg (by rw [z32_eq (by omega) (by omega) (by omega) (by omega)]; exact g2), z32_litn]
    · rw [e0, if_neg (by rw [z32_eq (by omega) (by omega) (by omega) (by omega)]; exact g1)]
end GC

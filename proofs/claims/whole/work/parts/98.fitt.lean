/-! MY OWN: fit, both sides -/
def bN (r : Int → Bool) : Nat → Int32 × Int
  | 0 => (z32 0, 0)
  | n + 1 => if r n = true then ((bN r n).1 ||| (1 <<< (z32 n &&& 31)), (bN r n).2 + 1) else bN r n
def r4 (b0 b1 b2 b3 : Bool) (i : Int) : Bool := if i = 0 then b0 else if i = 1 then b1 else if i = 2 then b2 else b3
theorem bN_c {r r' : Int → Bool} : ∀ n : Nat, (∀ i : Nat, i < n → r i = r' i) → bN r n = bN r' n := by
  intro n
  induction n with
  | zero => intro _; rfl
  | succ n ih =>
    intro h
    show (if r n = true then ((bN r n).1 ||| (1 <<< (z32 n &&& 31)), (bN r n).2 + 1) else bN r n) = (if r' n = true then ((bN r' n).1 ||| (1 <<< (z32 n &&& 31)), (bN r' n).2 + 1) else bN r' n)
    rw [h n (by omega), ih (fun i hi => h i (by omega))]
theorem bc_4 : ∀ (b0 b1 b2 b3 : Bool) (n : Fin 5), fJ6_bitCount_0f7a4 (bN (r4 b0 b1 b2 b3) n.val).1 = z32 (bN (r4 b0 b1 b2 b3) n.val).2 := by decide +kernel
theorem bc_z (r : Int → Bool) (n : Nat) (hn : n ≤ 4) : fJ6_bitCount_0f7a4 (bN r n).1 = z32 (bN r n).2 := by
  have e : bN r n = bN (r4 (r 0) (r 1) (r 2) (r 3)) n := bN_c n (fun i hi => by
    unfold r4
    rcases (by omega : i = 0 ∨ i = 1 ∨ i = 2 ∨ i = 3) with g | g | g | g <;> subst g <;> rfl)
  rw [e]
  exact bc_4 (r 0) (r 1) (r 2) (r 3) ⟨n, by omega⟩
section FI
variable {A B σ τ : zS} {t n k x c l a : Int} {oW oT : Option ((Int → Int) → Int)}
theorem ftl_j (H : RC oW oT A) (hm : RM oW oT A σ) (hc : rlC A σ) (hl : 0 ≤ l ∧ l ≤ 60) : ∀ (d : Nat) (x : Int) (f f' : Nat), x + d = hI A 32 3 → 0 ≤ x → d < f → d < f' → ∃ r : Bool, fX1_fitLength_2 A f (z32 l) (z32 x) = some (z32 (if r = true then 1 else 0)) ∧ fX11_isByFaces_2 σ f' (z32 l) (z32 x) = some (z32 (if r = true then 1 else 0)) := by
  have hR := H.1
  have hN := H.2.1
  have hH := hR.2.1
  have hT := hR.1
  obtain ⟨c1, c2, c3, c4⟩ := hc
  have e32 : iG A 32 3 = z32 (hI A 32 3) := iG_h A 32 3
  have e72 : iG σ 56 72 = z32 (hI A 32 3) := by rw [← c1]; exact iG_h σ 56 72
  intro d
  induction d with
  | zero =>
    intro x f f' hx h0 hf hf'
    obtain ⟨g, rfl⟩ : ∃ g, f = g + 1 := ⟨f - 1, by omega⟩
    obtain ⟨g', rfl⟩ : ∃ g', f' = g' + 1 := ⟨f' - 1, by omega⟩
    refine ⟨true, ?_, ?_⟩
    · rw [fX1_fitLength_2, e32, if_pos (by rw [z32_le (by omega) (by omega) (by omega) (by omega)]; omega), z32_litn]; rfl
    · rw [fX11_isByFaces_2, e72, if_pos (by rw [z32_le (by omega) (by omega) (by omega) (by omega)]; omega), z32_litn]; rfl
  | succ d ih =>
    intro x f f' hx h0 hf hf'
    obtain ⟨g, rfl⟩ : ∃ g, f = g + 1 := ⟨f - 1, by omega⟩
    obtain ⟨g', rfl⟩ : ∃ g', f' = g' + 1 := ⟨f' - 1, by omega⟩
    obtain ⟨w1, w2, w3, w4⟩ := c4 x h0 (by omega)
    obtain ⟨v1, v2, v3⟩ := c3 (by omega)
    have e2 : iG A 32 2 = z32 (hI A 32 2) := iG_h A 32 2
    have e73 : iG σ 56 73 = z32 (hI A 32 2) := by rw [← v1]; exact iG_h σ 56 73
    have y1 := cHold_z (h := hI A 33 x) (t := hI A 32 2) (l := l) hR hN w3.1 w3.2 v2 v3 hl.1 hl.2
    have y2 := mHold_z (h := hI A 33 x) (t := hI A 32 2) (l := l) hR hN hm.2.1 w3.1 w3.2 v2 v3 hl.1 hl.2
    have yb := sHold_b (t := hI A 32 2) hN w3.1 w3.2 hl.1 hl.2
    obtain ⟨r, r1, r2⟩ := ih (x + 1) g g' (by omega) (by omega) (by omega) (by omega)
    by_cases gs : sHold A (hI A 33 x) (hI A 32 2) l = hI A 34 x
    · refine ⟨r, ?_, ?_⟩
      · rw [fX1_fitLength_2, e32, if_neg (by rw [z32_le (by omega) (by omega) (by omega) (by omega)]; omega), aI_h h0 (by omega) (by omega), e2, y1, bnr_q, aI_h h0 (by omega) (by omega), if_pos (by rw [gs]), z1p, r1]
      · rw [fX11_isByFaces_2, e72, if_neg (by rw [z32_le (by omega) (by omega) (by omega) (by omega)]; omega), aI_h h0 (by omega) (by omega), w1, e73, y2, bnr_q, aI_h h0 (by omega) (by omega), w2, if_pos (by rw [gs]), z1p, r2]
    · refine ⟨false, ?_, ?_⟩
      · rw [fX1_fitLength_2, e32, if_neg (by rw [z32_le (by omega) (by omega) (by omega) (by omega)]; omega), aI_h h0 (by omega) (by omega), e2, y1, bnr_q, aI_h h0 (by omega) (by omega), if_neg (by rw [z32_eq (by omega) (by omega) (by omega) (by omega)]; exact gs), z32_litn]; rfl
      · rw [fX11_isByFaces_2, e72, if_neg (by rw [z32_le (by omega) (by omega) (by omega) (by omega)]; omega), aI_h h0 (by omega) (by omega), w1, e73, y2, bnr_q, aI_h h0 (by omega) (by omega), w2, if_neg (by rw [z32_eq (by omega) (by omega) (by omega) (by omega)]; exact gs), z32_litn]; rfl
theorem Q_fit (H : RC oW oT A) (hm : RM oW oT A σ) (hc : rlC A σ) (h1 : -2147483648 ≤ a) (h2 : a < 2147483648) : ∃ r, fX10_fit A (z32 a) = some r ∧ fX11_fit σ (z32 a) = some r := by
  have hR := H.1
  have hT := hR.1
  have hc' := hc
  obtain ⟨c1, c2, c3, c4⟩ := hc'
  have e32 : iG A 32 3 = z32 (hI A 32 3) := iG_h A 32 3
  have e72 : iG σ 56 72 = z32 (hI A 32 3) := by rw [← c1]; exact iG_h σ 56 72
  have en : (-1 : Int32) = z32 (-1) := by rw [z32_litn, z32_neg]
  by_cases g0 : hI A 32 3 = 0
  · refine ⟨z32 (-1), ?_, ?_⟩
    · unfold fX10_fit
      rw [e32, if_pos (by rw [g0, z32_litn]), en]
    · unfold fX11_fit
      rw [e72, if_pos (by rw [g0, z32_litn]), en]
  · by_cases ga : 0 ≤ a ∧ a ≤ 2
    · obtain ⟨v1, v2, v3⟩ := c3 (by omega)
      obtain ⟨t, ht⟩ : ∃ t, t = hI A 32 2 := ⟨_, rfl⟩
      rw [← ht] at v1 v2 v3
      have hcn := (hR.2.2.2.2.1 t v2 v3).2.1
      have e2 : iG A 32 2 = z32 t := by rw [ht]; exact iG_h A 32 2
      have e73 : iG σ 56 73 = z32 t := by rw [← v1]; exact iG_h σ 56 73
      have fl : ∀ k, 0 ≤ k ∧ k < vCnt A t → ∃ r : Bool, fX1_fitLength A (z32 (vLen A t k)) = some (z32 (if r = true then 1 else 0)) ∧ fX11_isByFaces σ (z32 (vLen A t k)) = some (z32 (if r = true then 1 else 0)) := fun k gk => by
        have hl := ((hR.2.2.2.2.1 t v2 v3).2.2 k gk.1 gk.2).1
        obtain ⟨d, hd⟩ : ∃ d : Nat, (0 : Int) + d = hI A 32 3 := ⟨(hI A 32 3).toNat, by omega⟩
        obtain ⟨r, r1, r2⟩ := ftl_j (l := vLen A t k) H hm hc (by omega) d 0 zF zF hd (by omega) (by unfold zF; omega) (by unfold zF; omega)
        refine ⟨r, ?_, ?_⟩
        · unfold fX1_fitLength
          rw [show (0 : Int32) = z32 0 from z32_litn 0, r1]
        · unfold fX11_isByFaces
          rw [show (0 : Int32) = z32 0 from z32_litn 0, r2]
      obtain ⟨R, hRr⟩ : ∃ R : Int → Bool, ∀ k, 0 ≤ k ∧ k < vCnt A t → fX1_fitLength A (z32 (vLen A t k)) = some (z32 (if R k = true then 1 else 0)) ∧ fX11_isByFaces σ (z32 (vLen A t k)) = some (z32 (if R k = true then 1 else 0)) :=
        ⟨fun k => if g : 0 ≤ k ∧ k < vCnt A t then Classical.choose (fl k g) else false, fun k g => by
          have e : (if g : 0 ≤ k ∧ k < vCnt A t then Classical.choose (fl k g) else false) = Classical.choose (fl k g) := dif_pos g
          show fX1_fitLength A (z32 (vLen A t k)) = some (z32 (if (if g : 0 ≤ k ∧ k < vCnt A t then Classical.choose (fl k g) else false) = true then 1 else 0)) ∧ fX11_isByFaces σ (z32 (vLen A t k)) = some (z32 (if (if g : 0 ≤ k ∧ k < vCnt A t then Classical.choose (fl k g) else false) = true then 1 else 0))
          rw [e]
          exact Classical.choose_spec (fl k g)⟩
      obtain ⟨W, hW⟩ : ∃ W : Int → Int, W = zs (fun i => if R i = true then vWt A t i else 0) := ⟨_, rfl⟩
      have Wb : ∀ k, 0 ≤ k → k ≤ vCnt A t → 0 ≤ W k ∧ W k ≤ 36 := fun k g0 g1 => by
        have := zs_b (g := fun i => if R i = true then vWt A t i else 0) (a := 0) (b := 9) (k := k) g0 (fun i w0 w1 => by
          have hw := ((hR.2.2.2.2.1 t v2 v3).2.2 i w0 (by omega)).2
          show 0 ≤ (if R i = true then vWt A t i else 0) ∧ (if R i = true then vWt A t i else 0) ≤ 9
          split <;> omega)
        rw [hW]
        omega
      have W0 : W 0 = 0 := by rw [hW]; exact zs_0 _
      have Ws : ∀ k, 0 ≤ k → W (k + 1) = W k + (if R k = true then vWt A t k else 0) := fun k g => by rw [hW, zs_s g]
      obtain ⟨cn, hcnn⟩ : ∃ cn : Nat, (cn : Int) = vCnt A t := ⟨(vCnt A t).toNat, by omega⟩
      have sb := sW_b hR v2 v3
      have Wn := Wb (vCnt A t) (by omega) (Int.le_refl _)
      have ecn : hI A (rp A.2.2.2.1 + 3) t = vCnt A t := rfl
      obtain ⟨ans, hans⟩ : ∃ ans : Int32, ans = if a = 0 then z32 (bN R cn).2 else if a = 1 then (bN R cn).1 else z32 ((1000 * W (vCnt A t)).fdiv (sW A t)) := ⟨_, rfl⟩
      refine ⟨ans, ?_, ?_⟩
      · have key := zup0 (L := fun f k (x : Int32 × Int) => fX10_fit_37 A f (z32 a) A.2.2.2.1 x.1 (z32 x.2) (z32 k)) (n := vCnt A t) (w := some ans) (fun k => ((bN R k.toNat).1, W k)) (by omega) (by omega) ?_ ?_
        · unfold fX10_fit
          rw [e32, if_neg (by rw [z32_litn, z32_eq (by omega) (by omega) (by omega) (by omega)]; exact g0), if_neg (by rw [z32_litn, z32_lt (by omega) (by omega) (by omega) (by omega)]; omega), if_pos (by rw [z32_litn, z32_le (by omega) (by omega) (by omega) (by omega)]; omega), show (0 : Int32) = z32 0 from z32_litn 0]
          rw [W0] at key
          exact key
        · intro f k gk gk'
          obtain ⟨m, rfl⟩ := Int.eq_ofNat_of_zero_le gk
          have hlw := (hR.2.2.2.2.1 t v2 v3).2.2 (m : Int) gk gk'
          obtain ⟨q1, q2⟩ := hRr (m : Int) ⟨gk, gk'⟩
          show fX10_fit_37 A (f + 1) (z32 a) A.2.2.2.1 (bN R ((m : Int)).toNat).1 (z32 (W (m : Int))) (z32 (m : Int)) = fX10_fit_37 A f (z32 a) A.2.2.2.1 (bN R ((m : Int) + 1).toNat).1 (z32 (W ((m : Int) + 1))) (z32 ((m : Int) + 1))
          rw [Ws _ gk, show ((m : Int)).toNat = m by omega, show ((m : Int) + 1).toNat = m + 1 by omega, fX10_fit_37, e2, aI_h v2 (by omega) (by omega), ecn, if_neg (by rw [z32_le (by omega) (by omega) (by omega) (by omega)]; omega), cLen_z hR v2 v3 gk gk', bnr_q, q1, bnr_q]
          by_cases gr : R (m : Int) = true
          · rw [if_pos gr, if_pos gr, if_neg (by rw [z32_litn, z32_eq (by omega) (by omega) (by omega) (by omega)]; omega), cWt_z hR v2 v3 gk gk', bnr_q, fX10_fit_106, z32_add, z1p]
            have eb : bN R (m + 1) = ((bN R m).1 ||| (1 <<< (z32 (m : Int) &&& 31)), (bN R m).2 + 1) := by
              show (if R (m : Int) = true then ((bN R m).1 ||| (1 <<< (z32 (m : Int) &&& 31)), (bN R m).2 + 1) else bN R m) = _
              rw [if_pos gr]
            rw [eb]
          · rw [if_neg gr, if_neg gr, if_pos (by rw [z32_litn]), fX10_fit_106, z1p, Int.add_zero]
            have eb : bN R (m + 1) = bN R m := by
              show (if R (m : Int) = true then ((bN R m).1 ||| (1 <<< (z32 (m : Int) &&& 31)), (bN R m).2 + 1) else bN R m) = _
              rw [if_neg gr]
            rw [eb]
        · intro f
          show fX10_fit_37 A (f + 1) (z32 a) A.2.2.2.1 (bN R (vCnt A t).toNat).1 (z32 (W (vCnt A t))) (z32 (vCnt A t)) = some ans
          rw [show (vCnt A t).toNat = cn by omega, fX10_fit_37, e2, aI_h v2 (by omega) (by omega), ecn, if_pos (by rw [z32_le (by omega) (by omega) (by omega) (by omega)]; omega), hans]
          by_cases a0 : a = 0
          · rw [if_pos (by rw [a0, z32_litn]), if_pos a0, bc_z R cn (by omega)]
          · rw [if_neg (by rw [z32_litn, z32_eq (by omega) (by omega) (by omega) (by omega)]; exact a0), if_neg a0]
            by_cases a1 : a = 1
            · rw [if_pos (by rw [a1, z32_litn]), if_pos a1]
            · rw [if_neg (by rw [z32_litn, z32_eq (by omega) (by omega) (by omega) (by omega)]; exact a1), if_neg a1, cW_z hR v2 v3, bnr_q, z32_64 (by omega) (by omega), z32_64 (by omega) (by omega), cThou (by omega) (by omega) (by omega) (by omega), bnr_q]
      · have key := zup0 (L := fun f k (x : Int × Int32 × Int) => fX11_fit_28 σ f (z32 a) (z32 x.1) x.2.1 (z32 x.2.2) (z32 k)) (n := vCnt A t) (w := some ans) (fun k => ((bN R k.toNat).2, (bN R k.toNat).1, W k)) (by omega) (by omega) ?_ ?_
        · unfold fX11_fit
          rw [e72, if_neg (by rw [z32_litn, z32_eq (by omega) (by omega) (by omega) (by omega)]; exact g0), show (0 : Int32) = z32 0 from z32_litn 0, show (2 : Int32) = z32 2 from z32_litn 2, is_p ga.1 ga.2 (by omega) (by omega), if_neg (by rw [z32_eq (by omega) (by omega) (by omega) (by omega)]; omega)]
          rw [W0] at key
          exact key
        · intro f k gk gk'
          obtain ⟨m, rfl⟩ := Int.eq_ofNat_of_zero_le gk
          have hlw := (hR.2.2.2.2.1 t v2 v3).2.2 (m : Int) gk gk'
          obtain ⟨q1, q2⟩ := hRr (m : Int) ⟨gk, gk'⟩
          show fX11_fit_28 σ (f + 1) (z32 a) (z32 (bN R ((m : Int)).toNat).2) (bN R ((m : Int)).toNat).1 (z32 (W (m : Int))) (z32 (m : Int)) = fX11_fit_28 σ f (z32 a) (z32 (bN R ((m : Int) + 1).toNat).2) (bN R ((m : Int) + 1).toNat).1 (z32 (W ((m : Int) + 1))) (z32 ((m : Int) + 1))
          rw [Ws _ gk, show ((m : Int)).toNat = m by omega, show ((m : Int) + 1).toNat = m + 1 by omega, fX11_fit_28, e73, mCnt_z hR hm.1 v2 v3, bnr_q, if_neg (by rw [z32_le (by omega) (by omega) (by omega) (by omega)]; omega), mLen_z hR hm.1 v2 v3 gk gk', bnr_q, q2, bnr_q]
          by_cases gr : R (m : Int) = true
          · rw [if_pos gr, if_pos gr, if_neg (by rw [z32_litn, z32_eq (by omega) (by omega) (by omega) (by omega)]; omega), mWt_z hR hm.1 v2 v3 gk gk', bnr_q, fX11_fit_86, z32_add, z1p, z1p]
            have eb : bN R (m + 1) = ((bN R m).1 ||| (1 <<< (z32 (m : Int) &&& 31)), (bN R m).2 + 1) := by
              show (if R (m : Int) = true then ((bN R m).1 ||| (1 <<< (z32 (m : Int) &&& 31)), (bN R m).2 + 1) else bN R m) = _
              rw [if_pos gr]
            rw [eb]
          · rw [if_neg gr, if_neg gr, if_pos (by rw [z32_litn]), fX11_fit_86, z1p, Int.add_zero]
            have eb : bN R (m + 1) = bN R m := by
              show (if R (m : Int) = true then ((bN R m).1 ||| (1 <<< (z32 (m : Int) &&& 31)), (bN R m).2 + 1) else bN R m) = _
              rw [if_neg gr]
            rw [eb]
        · intro f
          show fX11_fit_28 σ (f + 1) (z32 a) (z32 (bN R (vCnt A t).toNat).2) (bN R (vCnt A t).toNat).1 (z32 (W (vCnt A t))) (z32 (vCnt A t)) = some ans
          rw [show (vCnt A t).toNat = cn by omega, fX11_fit_28, e73, mCnt_z hR hm.1 v2 v3, bnr_q, if_pos (by rw [z32_le (by omega) (by omega) (by omega) (by omega)]; omega), hans]
          by_cases a0 : a = 0
          · rw [if_pos (by rw [a0, z32_litn]), if_pos a0]
          · rw [if_neg (by rw [z32_litn, z32_eq (by omega) (by omega) (by omega) (by omega)]; exact a0), if_neg a0]
            by_cases a1 : a = 1
            · rw [if_pos (by rw [a1, z32_litn]), if_pos a1]
            · rw [if_neg (by rw [z32_litn, z32_eq (by omega) (by omega) (by omega) (by omega)]; exact a1), if_neg a1, mW_z hR hm.1 v2 v3, bnr_q, gd_pos (by rw [z32_litn, z32_eq (by omega) (by omega) (by omega) (by omega)]; omega), show (1000 : Int32) = z32 1000 from z32_litn 1000, mThou32 (by omega) (by omega) (by omega) (by omega)]
    · refine ⟨z32 (-1), ?_, ?_⟩
      · unfold fX10_fit
        rw [e32, if_neg (by rw [z32_litn, z32_eq (by omega) (by omega) (by omega) (by omega)]; exact g0)]
        by_cases g1 : a < 0
        · rw [if_pos (by rw [z32_litn, z32_lt (by omega) (by omega) (by omega) (by omega)]; omega), en]
        · rw [if_neg (by rw [z32_litn, z32_lt (by omega) (by omega) (by omega) (by omega)]; omega), if_neg (by rw [z32_litn, z32_le (by omega) (by omega) (by omega) (by omega)]; omega), en]
      · unfold fX11_fit
        rw [e72, if_neg (by rw [z32_litn, z32_eq (by omega) (by omega) (by omega) (by omega)]; exact g0), show (0 : Int32) = z32 0 from z32_litn 0, show (2 : Int32) = z32 2 from z32_litn 2, is_n h1 h2 (by omega) (by omega) (by omega) (by omega) ga, if_pos rfl, en]
end FI

/-! MY OWN: goOn, both sides -/
section GM
variable {A B a b σ τ φ : zS} {T H E L q x v w u n : Int} {oW oT : Option ((Int → Int) → Int)}
theorem hoM_g (hT : 0 ≤ T ∧ T ≤ 6) (hb : 0 ≤ hI b 56 13 ∧ hI b 56 13 ≤ 1) (e58 : hI b 58 (hI b 56 13) = T) (e57 : ∀ k, 0 ≤ k → k < 1600 → hI b 57 k = tx A k) (hx : 0 ≤ x ∧ x < 6) (hq : 0 ≤ q) (hq' : q + 5 + T ≤ 1600) (ok : hOK A T q) : ∃ b', fX11_holderOn (z32 x) (z32 q) b = some (z32 1, b') ∧ fr (hoU x) b b' ∧ hI b' 86 (6 + x) = tx A q ∧ hI b' 87 (6 + x) = tx A (q + 1) ∧ hI b' 88 (6 + x) = scv A (q + 2) ∧ ∀ k, 0 ≤ k → k < T → hI b' 89 (36 + 6 * x + k) = tx A (q + 5 + k) := by
  obtain ⟨o1, o2, o3, o4⟩ := ok
  have b1 := tx_b A q
  have b2 := tx_b A (q + 1)
  obtain ⟨c, w1, w2, w3, w4, w5⟩ := ho_w (A := A) (b := b) (x := x) (q := q) e57 hx hq (by omega)
  have e13 : hI c 56 13 = hI b 56 13 := (w2.2 56 13 (by omega) (by omega)).1
  obtain ⟨b', y1, y2, y3⟩ := h120_g (A := A) (b := c) (T := T) (x := x) (q := q) hT (by rw [e13]; exact hb) (by rw [e13, (w2.2 58 _ (by omega) (by omega)).1]; exact e58) (fun k g0 g1 => by rw [(w2.2 57 k g0 (by omega)).1]; exact e57 k g0 g1) hx hq hq' o4
  refine ⟨b', ?_, fr_t (fr_m w2 (fun p k _ u => Or.inl u)) (fr_m y2 (fun p k _ u => Or.inr u)), ?_, ?_, ?_, y3⟩
  · rw [w1, if_neg (by rw [z32_litn, z32_lt (by omega) (by omega) (by omega) (by omega)]; omega), if_neg (by rw [z32_litn, z32_lt (by omega) (by omega) (by omega) (by omega)]; omega), show (-99999 : Int32) = z32 (-99999) by rw [z32_litn, z32_neg], show (99999 : Int32) = z32 99999 from z32_litn 99999, is_p o3.1 o3.2 (by omega) (by omega), if_neg (by rw [z32_litn, z32_eq (by omega) (by omega) (by omega) (by omega)]; omega), show (0 : Int32) = z32 0 from z32_litn 0, y1]
  · rw [(y2.2 86 _ (by omega) (by omega)).1, w3]
  · rw [(y2.2 87 _ (by omega) (by omega)).1, w4]
  · rw [(y2.2 88 _ (by omega) (by omega)).1, w5]
theorem hoM_b (hT : 0 ≤ T ∧ T ≤ 6) (hb : 0 ≤ hI b 56 13 ∧ hI b 56 13 ≤ 1) (e58 : hI b 58 (hI b 56 13) = T) (e57 : ∀ k, 0 ≤ k → k < 1600 → hI b 57 k = tx A k) (hx : 0 ≤ x ∧ x < 6) (hq : 0 ≤ q) (hq' : q + 5 + T ≤ 1600) (ok : ¬ hOK A T q) : ∃ b', fX11_holderOn (z32 x) (z32 q) b = some (z32 0, b') ∧ fr (hoU x) b b' := by
  have b1 := tx_b A q
  have b2 := tx_b A (q + 1)
  have sb := scv_b (A := A) (q := q + 2)
  obtain ⟨c, w1, w2, w3, w4, w5⟩ := ho_w (A := A) (b := b) (x := x) (q := q) e57 hx hq (by omega)
  have fc : fr (hoU x) b c := fr_m w2 (fun p k _ u => Or.inl u)
  have e13 : hI c 56 13 = hI b 56 13 := (w2.2 56 13 (by omega) (by omega)).1
  by_cases o1 : tx A q ≤ 60
  · by_cases o2 : tx A (q + 1) ≤ 60
    · by_cases o3 : -99999 ≤ scv A (q + 2) ∧ scv A (q + 2) ≤ 99999
      · obtain ⟨i, z1, z2, z3⟩ := nex (P := fun k => tx A (q + 5 + k) ≤ 60) (n := T) (fun w => ok ⟨o1, o2, o3, w⟩)
        obtain ⟨d, hd⟩ : ∃ d : Nat, (0 : Int) + d = T := ⟨T.toNat, by omega⟩
        obtain ⟨b', y1, y2⟩ := h120_b (A := A) (T := T) (x := x) (q := q) hT hx hq hq' d 0 zF c hd (by omega) (by unfold zF; omega) (by rw [e13]; exact hb) (by rw [e13, (w2.2 58 _ (by omega) (by omega)).1]; exact e58) (fun k g0 g1 => by rw [(w2.2 57 k g0 (by omega)).1]; exact e57 k g0 g1) ⟨i, z1, z2, z3⟩
        refine ⟨b', ?_, fr_t fc (fr_m y2 (fun p k _ u => Or.inr u))⟩
        rw [w1, if_neg (by rw [z32_litn, z32_lt (by omega) (by omega) (by omega) (by omega)]; omega), if_neg (by rw [z32_litn, z32_lt (by omega) (by omega) (by omega) (by omega)]; omega), show (-99999 : Int32) = z32 (-99999) by rw [z32_litn, z32_neg], show (99999 : Int32) = z32 99999 from z32_litn 99999, is_p o3.1 o3.2 (by omega) (by omega), if_neg (by rw [z32_litn, z32_eq (by omega) (by omega) (by omega) (by omega)]; omega), show (0 : Int32) = z32 0 from z32_litn 0, y1]
      · refine ⟨c, ?_, fc⟩
        rw [w1, if_neg (by rw [z32_litn, z32_lt (by omega) (by omega) (by omega) (by omega)]; omega), if_neg (by rw [z32_litn, z32_lt (by omega) (by omega) (by omega) (by omega)]; omega), show (-99999 : Int32) = z32 (-99999) by rw [z32_litn, z32_neg], show (99999 : Int32) = z32 99999 from z32_litn 99999, is_n (by omega) (by omega) (by omega) (by omega) (by omega) (by omega) o3, if_pos (by rw [z32_litn]), z32_litn]
    · refine ⟨c, ?_, fc⟩
      rw [w1, if_neg (by rw [z32_litn, z32_lt (by omega) (by omega) (by omega) (by omega)]; omega), if_pos (by rw [z32_litn, z32_lt (by omega) (by omega) (by omega) (by omega)]; omega), z32_litn]
  · refine ⟨c, ?_, fc⟩
    rw [w1, if_pos (by rw [z32_litn, z32_lt (by omega) (by omega) (by omega) (by omega)]; omega), z32_litn]
theorem hoU_c (hx : 0 ≤ x ∧ x < 6) (f : fr (hoU x) a b) : fr (cpU 1) a b := fr_m f (fun p k _ u => by unfold hoU at u; unfold cpU; omega)
theorem rwM_c {h : Int} (hx : 0 ≤ x ∧ x < 6) (hh : 0 ≤ h ∧ h < 6) (hT : vT A ≤ 6) (hne : h ≠ x) (f : fr (hoU x) a b) (r : rwM A a h) : rwM A b h := by
  obtain ⟨r1, r2, r3, r4⟩ := r
  exact ⟨by rw [(f.2 86 _ (by omega) (by unfold hoU; omega)).1]; exact r1, by rw [(f.2 87 _ (by omega) (by unfold hoU; omega)).1]; exact r2, by rw [(f.2 88 _ (by omega) (by unfold hoU; omega)).1]; exact r3, fun k g0 g1 => by rw [(f.2 89 _ (by omega) (by unfold hoU; omega)).1]; exact r4 k g0 g1⟩
/-- what the other side reads as it tries an image -/
def tryM (A b : zS) : Prop := (0 ≤ hI b 56 13 ∧ hI b 56 13 ≤ 1) ∧ hI b 58 (hI b 56 13) = vT A ∧ hI b 63 (hI b 56 13) = vH A ∧ ∀ k, 0 ≤ k → k < 1600 → hI b 57 k = tx A k
theorem tryM_f (h : tryM A a) (f : fr (cpU 1) a b) : tryM A b := by
  obtain ⟨t1, t2, t3, t4⟩ := h
  have e13 : hI b 56 13 = hI a 56 13 := (f.2 56 13 (by omega) (by unfold cpU; omega)).1
  refine ⟨by rw [e13]; exact t1, ?_, ?_, fun k g0 g1 => by rw [(f.2 57 k g0 (by unfold cpU; omega)).1]; exact t4 k g0 g1⟩
  · rw [e13, (f.2 58 _ (by omega) (by unfold cpU; omega)).1]; exact t2
  · rw [e13, (f.2 63 _ (by omega) (by unfold cpU; omega)).1]; exact t3
theorem c143_g (hR : okR A) (ht : tryM A b) (ok : ∀ h, 0 ≤ h → h < vH A → hOK A (vT A) (1 + h * (5 + vT A))) : ∃ b', fX11_comesOn_143 zF (z32 (5 + vT A)) (z32 0) b = some (z32 1, b') ∧ fr (cpU 1) b b' ∧ (∀ p k, p = 85 ∨ p = 90 → 0 ≤ k → hI b' p k = hI b p k) ∧ ∀ h, 0 ≤ h → h < vH A → rwM A b' h := by
  have hH := hR.2.1
  have hT := hR.1
  have LL := mulL hH.1 hH.2 (E := 5 + vT A) (by omega) (by omega)
  refine zupP0 (β := Int32 × zS) (L := fun f x c => fX11_comesOn_143 f (z32 (5 + vT A)) (z32 x) c) (n := vH A) (Q := fun r => ∃ b', r = some (z32 1, b') ∧ fr (cpU 1) b b' ∧ (∀ p k, p = 85 ∨ p = 90 → 0 ≤ k → hI b' p k = hI b p k) ∧ ∀ h, 0 ≤ h → h < vH A → rwM A b' h)
    (fun x c => fr (cpU 1) b c ∧ (∀ p k, p = 85 ∨ p = 90 → 0 ≤ k → hI c p k = hI b p k) ∧ ∀ h, 0 ≤ h → h < x → rwM A c h) (a := b) hH.1 (by omega) ⟨fr_r, fun _ _ _ _ => rfl, fun h g0 g1 => by omega⟩ ?_ ?_
  · intro f x c hx hx' ⟨p1, p2, p3⟩
    have xE := mulE hx hx' (E := 5 + vT A) (by omega)
    obtain ⟨t1, t2, t3, t4⟩ := tryM_f ht p1
    obtain ⟨b', y1, y2, y3, y4, y5, y6⟩ := hoM_g (A := A) (b := c) (T := vT A) (x := x) (q := 1 + x * (5 + vT A)) hT t1 t2 t4 (by omega) (by omega) (by omega) (ok x hx hx')
    refine ⟨b', ?_, fr_t p1 (hoU_c (by omega) y2), fun p k g0 g1 => by rw [(y2.2 p k g1 (by unfold hoU; omega)).1]; exact p2 p k g0 g1, fun h g0 g1 => ?_⟩
    · have e : z32 1 + z32 (5 + vT A) * z32 x = z32 (1 + x * (5 + vT A)) := by rw [z32_mul, z32_add, Int.mul_comm]
      show fX11_comesOn_143 (f + 1) (z32 (5 + vT A)) (z32 x) c = fX11_comesOn_143 f (z32 (5 + vT A)) (z32 (x + 1)) b'
      rw [fX11_comesOn_143, show iG c 56 13 = z32 (hI c 56 13) from iG_h c 56 13, aI_h t1.1 (by omega) (by omega), t3, if_neg (by rw [z32_le (by omega) (by omega) (by omega) (by omega)]; omega), show (1 : Int32) = z32 1 from z32_litn 1, e, y1, bnc_q]
      try dsimp only
      rw [if_neg (by rw [z32_litn, z32_eq (by omega) (by omega) (by omega) (by omega)]; omega), z32_add]
    · by_cases gh : h = x
      · subst gh
        exact ⟨y3, y4, y5, y6⟩
      · exact rwM_c (by omega) (by omega) hT.2 gh y2 (p3 h g0 (by omega))
  · intro f c ⟨p1, p2, p3⟩
    obtain ⟨t1, t2, t3, t4⟩ := tryM_f ht p1
    refine ⟨c, ?_, p1, p2, p3⟩
    show fX11_comesOn_143 (f + 1) (z32 (5 + vT A)) (z32 (vH A)) c = _
    rw [fX11_comesOn_143, show iG c 56 13 = z32 (hI c 56 13) from iG_h c 56 13, aI_h t1.1 (by omega) (by omega), t3, if_pos (by rw [z32_le (by omega) (by omega) (by omega) (by omega)]; omega), z32_litn]
theorem c143_b (hR : okR A) : ∀ (d : Nat) (x : Int) (f : Nat) (b : zS), x + d = vH A → 0 ≤ x → d < f → tryM A b → (∃ h, x ≤ h ∧ h < vH A ∧ ¬ hOK A (vT A) (1 + h * (5 + vT A))) → ∃ b', fX11_comesOn_143 f (z32 (5 + vT A)) (z32 x) b = some (z32 0, b') ∧ fr (cpU 1) b b' := by
  have hH := hR.2.1
  have hT := hR.1
  have LL := mulL hH.1 hH.2 (E := 5 + vT A) (by omega) (by omega)
  intro d
  induction d with
  | zero =>
    intro x f b hx h0 hf ht g
    obtain ⟨i, g1, g2, -⟩ := g
    omega
  | succ d ih =>
    intro x f b hx h0 hf ht g
    obtain ⟨f', rfl⟩ : ∃ f', f = f' + 1 := ⟨f - 1, by omega⟩
    have xE := mulE h0 (show x < vH A by omega) (E := 5 + vT A) (by omega)
    have ht' := ht
    obtain ⟨t1, t2, t3, t4⟩ := ht'
    have e : z32 1 + z32 (5 + vT A) * z32 x = z32 (1 + x * (5 + vT A)) := by rw [z32_mul, z32_add, Int.mul_comm]
    by_cases ok : hOK A (vT A) (1 + x * (5 + vT A))
    · obtain ⟨c, y1, y2, -⟩ := hoM_g (A := A) (b := b) (T := vT A) (x := x) (q := 1 + x * (5 + vT A)) hT t1 t2 t4 (by omega) (by omega) (by omega) ok
      have fc := hoU_c (by omega) y2
      obtain ⟨i, w1, w2, w3⟩ := g
      obtain ⟨b', z1, z2⟩ := ih (x + 1) f' c (by omega) (by omega) (by omega) (tryM_f ht fc) ⟨i, by
        by_cases gi : i = x
        · rw [gi] at w3; exact absurd ok w3
        · omega, w2, w3⟩
      refine ⟨b', ?_, fr_t fc z2⟩
      rw [fX11_comesOn_143, show iG b 56 13 = z32 (hI b 56 13) from iG_h b 56 13, aI_h t1.1 (by omega) (by omega), t3, if_neg (by rw [z32_le (by omega) (by omega) (by omega) (by omega)]; omega), show (1 : Int32) = z32 1 from z32_litn 1, e, y1, bnc_q]
      try dsimp only
      rw [if_neg (by rw [z32_litn, z32_eq (by omega) (by omega) (by omega) (by omega)]; omega), z32_add, z1]
    · obtain ⟨c, y1, y2⟩ := hoM_b (A := A) (b := b) (T := vT A) (x := x) (q := 1 + x * (5 + vT A)) hT t1 t2 t4 (by omega) (by omega) (by omega) ok
      refine ⟨c, ?_, hoU_c (by omega) y2⟩
      rw [fX11_comesOn_143, show iG b 56 13 = z32 (hI b 56 13) from iG_h b 56 13, aI_h t1.1 (by omega) (by omega), t3, if_neg (by rw [z32_le (by omega) (by omega) (by omega) (by omega)]; omega), show (1 : Int32) = z32 1 from z32_litn 1, e, y1, bnc_q]
      try dsimp only
      rw [if_pos (by rw [z32_litn]), z32_litn]
theorem c71_z (ht : tryM A b) {x2 : Int32} (h0 : 1 ≤ n) (h1 : n ≤ 1600) : fX11_comesOn_71 zF (z32 n) x2 (z32 107) (z32 0) b = fX11_comesOn_71 (0 + 1) (z32 n) x2 (z32 (ckN (tx A) (n - 1).toNat)) (z32 (n - 1)) b := by
  obtain ⟨t1, t2, t3, t4⟩ := ht
  have en : z32 n - 1 = z32 (n - 1) := by rw [z32_litn, z32_sub]
  refine zup0 (L := fun f k (c : Int) => fX11_comesOn_71 f (z32 n) x2 (z32 c) (z32 k) b) (n := n - 1) (fun k => ckN (tx A) k.toNat) (by omega) (by omega) ?_ ?_
  · intro f k gk gk'
    obtain ⟨m, rfl⟩ := Int.eq_ofNat_of_zero_le gk
    have cb := ckN_b (tx A) m
    have tb := tx_b A (m : Int)
    show fX11_comesOn_71 (f + 1) (z32 n) x2 (z32 (ckN (tx A) ((m : Int)).toNat)) (z32 (m : Int)) b = fX11_comesOn_71 f (z32 n) x2 (z32 (ckN (tx A) ((m : Int) + 1).toNat)) (z32 ((m : Int) + 1)) b
    rw [show ((m : Int)).toNat = m by omega, show ((m : Int) + 1).toNat = m + 1 by omega, fX11_comesOn_71, en, if_neg (by rw [z32_le (by omega) (by omega) (by omega) (by omega)]; omega), aI_h gk (by omega) (by omega), t4 _ gk (by omega), show (5 : Int32) = z32 5 from z32_litn 5, z32_mul, z32_add, show (251 : Int32) = z32 251 from z32_litn 251, z32_rem (by omega) (by omega) (by omega) (by omega), z1p]
    rfl
  · intro f
    show fX11_comesOn_71 (f + 1) (z32 n) x2 (z32 (ckN (tx A) (n - 1).toNat)) (z32 (n - 1)) b = fX11_comesOn_71 (0 + 1) (z32 n) x2 (z32 (ckN (tx A) (n - 1).toNat)) (z32 (n - 1)) b
    rw [fX11_comesOn_71, fX11_comesOn_71, en, if_pos (by rw [z32_le (by omega) (by omega) (by omega) (by omega)]; omega), if_pos (by rw [z32_le (by omega) (by omega) (by omega) (by omega)]; omega)]
/-- the other side's try -/
theorem com_z (hR : okR A) (hm : rlR A b) (ht : tryM A b) (h2 : 0 ≤ hI A 2 1 ∧ hI A 2 1 ≤ 1600) : (GOO A → ∃ b', fX11_comesOn (z32 (hI A 2 1)) b = some (z32 1, b') ∧ fr (cpU 1) b b' ∧ hI b' 85 1 = tx A 0 ∧ hI b' 90 1 = 0 ∧ ∀ h, 0 ≤ h → h < vH A → rwM A b' h) ∧ (¬ GOO A → ∃ b', fX11_comesOn (z32 (hI A 2 1)) b = some (z32 0, b') ∧ fr (cpU 1) b b') := by
  have hH := hR.2.1
  have hT := hR.1
  have LL := mulL hH.1 hH.2 (E := 5 + vT A) (by omega) (by omega)
  have ht' := ht
  obtain ⟨t1, t2, t3, t4⟩ := ht'
  have t0 := tx_b A 0
  have x0 := t4 0 (by omega) (by omega)
  have e13 : iG b 56 13 = z32 (hI b 56 13) := iG_h b 56 13
  have e0 : fX11_comesOn (z32 (hI A 2 1)) b = if z32 (hI A 2 1) = z32 (2 + (5 + vT A) * vH A) then (bnr (fX11_isTunnel b (z32 (tx A 0))) fun v4 => if v4 = 0 then (if (0 : Int32) < z32 (vT A) then some (0, b) else if z32 (tx A 0) ≤ 0 then fX11_comesOn_65 (z32 (hI A 2 1)) (z32 (5 + vT A)) b else some (0, b)) else fX11_comesOn_65 (z32 (hI A 2 1)) (z32 (5 + vT A)) b) else some (0, b) := by
    unfold fX11_comesOn
    rw [e13, aI_h t1.1 (by omega) (by omega), t2, aI_h t1.1 (by omega) (by omega), t3, show (5 : Int32) = z32 5 from z32_litn 5, z32_add, z32_mul, show (2 : Int32) = z32 2 from z32_litn 2, z32_add]
    congr 1
    rw [show aI b 57 1800 (0 : Int32) = aI b 57 1800 (z32 0) by rw [show (0 : Int32) = z32 0 from z32_litn 0], aI_h (by omega) (by omega) (by omega), x0]
    congr 1
    funext v4
    rw [aI_h t1.1 (by omega) (by omega), t2, aI_h (by omega) (by omega) (by omega), x0]
  have cm : (5 + vT A) * vH A = vH A * (5 + vT A) := Int.mul_comm _ _
  rw [cm] at e0
  have pre : hI A 2 1 = 1 + vH A * (5 + vT A) + 1 → (tx A 0 = 0 ∨ tx A 0 < vT A) → fX11_comesOn (z32 (hI A 2 1)) b = fX11_comesOn_65 (z32 (hI A 2 1)) (z32 (5 + vT A)) b := fun g1 g3 => by
    rw [e0, if_pos (by rw [g1, show 1 + vH A * (5 + vT A) + 1 = 2 + vH A * (5 + vT A) by omega])]
    by_cases g : tx A 0 < vT A
    · rw [isT_p hR hm t0.1 g, bnr_q, if_neg (by rw [z32_litn, z32_eq (by omega) (by omega) (by omega) (by omega)]; omega)]
    · rw [isT_n hR hm (by omega) (by omega) (by omega), bnr_q, if_pos (by rw [z32_litn]), if_neg (by rw [z32_litn, z32_lt (by omega) (by omega) (by omega) (by omega)]; omega), if_pos (by rw [z32_litn, z32_le (by omega) (by omega) (by omega) (by omega)]; omega)]
  have cb := ckN_b (tx A) (1 + vH A * (5 + vT A)).toNat
  have tb := tx_b A (1 + vH A * (5 + vT A))
  obtain ⟨c, k1, k2, k3⟩ := cop_z (σ := b) (d := 1) (s := 0) (by omega) (by omega) (by omega)
  obtain ⟨c2, hc2⟩ : ∃ c2, c2 = jS (jS c 85 1 (tx A 0)) 90 1 0 := ⟨_, rfl⟩
  have fc2 : fr (cpU 1) b c2 := by
    rw [hc2]; exact fr_t k2 (fr_t (fr_j (by omega) (by unfold cpU; omega)) (fr_j (by omega) (by unfold cpU; omega)))
  have mid : hI A 2 1 = 1 + vH A * (5 + vT A) + 1 → fX11_comesOn_65 (z32 (hI A 2 1)) (z32 (5 + vT A)) b = if z32 (tx A (1 + vH A * (5 + vT A))) = z32 (ckN (tx A) (1 + vH A * (5 + vT A)).toNat) then fX11_comesOn_143 zF (z32 (5 + vT A)) (z32 0) c2 else some (0, b) := fun g1 => by
    have en : z32 (hI A 2 1) - 1 = z32 (1 + vH A * (5 + vT A)) := by rw [z32_litn, z32_sub, show hI A 2 1 - 1 = 1 + vH A * (5 + vT A) by omega]
    have ex := t4 (1 + vH A * (5 + vT A)) (by omega) (by omega)
    have xc : hI c 57 0 = tx A 0 := by rw [(k2.2 57 0 (by omega) (by unfold cpU; omega)).1, x0]
    unfold fX11_comesOn_65
    rw [show (107 : Int32) = z32 107 from z32_litn 107, show (0 : Int32) = z32 0 from z32_litn 0, c71_z ht (by omega) (by omega), show hI A 2 1 - 1 = 1 + vH A * (5 + vT A) by omega, fX11_comesOn_71, en, if_pos (by rw [z32_le (by omega) (by omega) (by omega) (by omega)]; omega), aI_h (by omega) (by omega) (by omega), ex]
    by_cases gq : z32 (tx A (1 + vH A * (5 + vT A))) = z32 (ckN (tx A) (1 + vH A * (5 + vT A)).toNat)
    rotate_left
    · rw [if_neg gq, if_neg gq, z32_litn]
    rw [if_pos gq, if_pos gq, show (1 : Int32) = z32 1 from z32_litn 1, show (0 : Int32) = z32 0 from z32_litn 0, k1, bnr_q, aI_h (by omega) (by omega) (by omega), xc, wI_h (by omega) (by omega) (by omega), wI_h (by omega) (by omega) (by omega), ← hc2]
  obtain ⟨d, hd⟩ : ∃ d : Nat, (0 : Int) + d = vH A := ⟨(vH A).toNat, by omega⟩
  have ht2 := tryM_f ht fc2
  constructor
  · intro G
    obtain ⟨g1, g2, g3, g4⟩ := G
    obtain ⟨b', y1, y2, y3, y4⟩ := c143_g hR ht2 g4
    refine ⟨b', ?_, fr_t fc2 y2, ?_, ?_, y4⟩
    · rw [pre g1 g3, mid g1, if_pos (by rw [g2]), y1]
    · rw [y3 85 1 (by omega) (by omega), hc2, hI_jS_ne (by omega), hI_jS (by omega) (by omega) (by omega) (by omega), if_pos rfl]
    · rw [y3 90 1 (by omega) (by omega), hc2, hI_jS (by omega) (by omega) (by omega) (by omega), if_pos rfl]
  · intro G
    by_cases g1 : hI A 2 1 = 1 + vH A * (5 + vT A) + 1
    · by_cases g3 : tx A 0 = 0 ∨ tx A 0 < vT A
      · by_cases g2 : ckN (tx A) (1 + vH A * (5 + vT A)).toNat = tx A (1 + vH A * (5 + vT A))
        · obtain ⟨i, z1, z2, z3⟩ := nex (P := fun h => hOK A (vT A) (1 + h * (5 + vT A))) (n := vH A) (fun w => G ⟨g1, g2, g3, w⟩)
          obtain ⟨b', y1, y2⟩ := c143_b hR d 0 zF c2 hd (by omega) (by unfold zF; omega) ht2 ⟨i, z1, z2, z3⟩
          refine ⟨b', ?_, fr_t fc2 y2⟩
          rw [pre g1 g3, mid g1, if_pos (by rw [g2]), y1]
        · refine ⟨b, ?_, fr_r⟩
          rw [pre g1 g3, mid g1, if_neg (by rw [z32_eq (by omega) (by omega) (by omega) (by omega)]; omega), z32_litn]
      · refine ⟨b, ?_, fr_r⟩
        rw [e0, if_pos (by rw [g1, show 1 + vH A * (5 + vT A) + 1 = 2 + vH A * (5 + vT A) by omega]), isT_n hR hm (by omega) (by omega) (by omega), bnr_q, if_pos (by rw [z32_litn])]
        by_cases gT : 0 < vT A
        · rw [if_pos (by rw [z32_litn, z32_lt (by omega) (by omega) (by omega) (by omega)]; omega), z32_litn]
        · rw [if_neg (by rw [z32_litn, z32_lt (by omega) (by omega) (by omega) (by omega)]; omega), if_neg (by rw [z32_litn, z32_le (by omega) (by omega) (by omega) (by omega)]; omega), z32_litn]
    · refine ⟨b, ?_, fr_r⟩
      rw [e0, if_neg (by rw [z32_eq (by omega) (by omega) (by omega) (by omega)]; omega), z32_litn]
end GM

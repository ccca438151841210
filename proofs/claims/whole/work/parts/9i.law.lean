/-! MY OWN: each pair of calls for any ints; the law's loop (written by mk9i.py) -/
section LW
variable {σ : zS} {oW oT : Option ((Int → Int) → Int)}
theorem W_end (h : INV σ) (x1 : Int32) : CA (fX10_end x1) (fX11_end x1) σ := by
  have w := C_end (a := x1.toInt) h (z32_b x1).1 (z32_b x1).2
  simp only [z32_of] at w
  exact w
theorem W_seed (h : INV σ) (x1 : Int32) : CA (fX10_seed x1) (fX11_seed x1) σ := by
  have w := C_seed (a := x1.toInt) h (z32_b x1).1 (z32_b x1).2
  simp only [z32_of] at w
  exact w
theorem W_believe (h : INV σ) (x1 x2 x3 : Int32) : CA (fX10_believe x1 x2 x3) (fX11_believe x1 x2 x3) σ := by
  have w := C_believe (a := x1.toInt) (b := x2.toInt) (c := x3.toInt) h (z32_b x1).1 (z32_b x1).2 (z32_b x2).1 (z32_b x2).2 (z32_b x3).1 (z32_b x3).2
  simp only [z32_of] at w
  exact w
theorem W_give (h : INV σ) (x1 x2 : Int32) : CA (fX10_give x1 x2) (fX11_give x1 x2) σ := by
  have w := C_give (a := x1.toInt) (c := x2.toInt) h (z32_b x1).1 (z32_b x1).2 (z32_b x2).1 (z32_b x2).2
  simp only [z32_of] at w
  exact w
theorem W_drive (h : INV σ) (x1 : Int32) : CA (fX10_drive x1) (fX11_drive x1) σ := by
  have w := C_drive (c := x1.toInt) h (z32_b x1).1 (z32_b x1).2
  simp only [z32_of] at w
  exact w
theorem W_faces (h : INV σ) (x1 : Int32) : CA (fX10_faces x1) (fX11_faces x1) σ := by
  have w := C_faces (c := x1.toInt) h (z32_b x1).1 (z32_b x1).2
  simp only [z32_of] at w
  exact w
theorem W_worth (h : INV σ) (x1 x2 x3 : Int32) : CA (fX10_worth x1 x2 x3) (fX11_worth x1 x2 x3) σ := by
  have w := CA_Z (f := fX10_worth (z32 x1.toInt) (z32 x2.toInt) (z32 x3.toInt)) (g := fX11_worth (z32 x1.toInt) (z32 x2.toInt) (z32 x3.toInt)) h (fun oW oT H hk => QJ_Z hk (Q_worth (a := x1.toInt) (b := x2.toInt) (c := x3.toInt) H (z32_b x1).1 (z32_b x1).2 (z32_b x2).1 (z32_b x2).2 (z32_b x3).1 (z32_b x3).2))
  simp only [z32_of] at w
  exact w
theorem W_tired (h : INV σ) (x1 x2 x3 x4 : Int32) : CA (fX10_tired x1 x2 x3 x4) (fX11_tired x1 x2 x3 x4) σ := by
  have w := CA_Z (f := fX10_tired (z32 x1.toInt) (z32 x2.toInt) (z32 x3.toInt) (z32 x4.toInt)) (g := fX11_tired (z32 x1.toInt) (z32 x2.toInt) (z32 x3.toInt) (z32 x4.toInt)) h (fun oW oT H hk => QJ_Z hk (Q_tired (a := x1.toInt) (b := x2.toInt) (c := x3.toInt) (d := x4.toInt) H (z32_b x1).1 (z32_b x1).2 (z32_b x2).1 (z32_b x2).2 (z32_b x3).1 (z32_b x3).2 (z32_b x4).1 (z32_b x4).2))
  simp only [z32_of] at w
  exact w
theorem W_whom (h : INV σ) (x1 x2 x3 : Int32) : CA (fX10_whom x1 x2 x3) (fX11_whom x1 x2 x3) σ := by
  have w := CA_Z (f := fX10_whom (z32 x1.toInt) (z32 x2.toInt) (z32 x3.toInt)) (g := fX11_whom (z32 x1.toInt) (z32 x2.toInt) (z32 x3.toInt)) h (fun oW oT H hk => QJ_Z hk (Q_whom (a := x1.toInt) (b := x2.toInt) (c := x3.toInt) H (z32_b x1).1 (z32_b x1).2 (z32_b x2).1 (z32_b x2).2 (z32_b x3).1 (z32_b x3).2))
  simp only [z32_of] at w
  exact w
theorem W_alone (h : INV σ) (x1 x2 x3 : Int32) : CA (fX10_alone x1 x2 x3) (fX11_alone x1 x2 x3) σ := by
  have w := CA_Z (f := fX10_alone (z32 x1.toInt) (z32 x2.toInt) (z32 x3.toInt)) (g := fX11_alone (z32 x1.toInt) (z32 x2.toInt) (z32 x3.toInt)) h (fun oW oT H hk => QK_Z hk (Q_alone (a := x1.toInt) (b := x2.toInt) (c := x3.toInt) H hk.1 (z32_b x1).1 (z32_b x1).2 (z32_b x2).1 (z32_b x2).2 (z32_b x3).1 (z32_b x3).2))
  simp only [z32_of] at w
  exact w
theorem W_on (h : INV σ) (x1 x2 x3 : Int32) : CA (fX10_on x1 x2 x3) (fX11_on x1 x2 x3) σ := by
  have w := CA_Z (f := fX10_on (z32 x1.toInt) (z32 x2.toInt) (z32 x3.toInt)) (g := fX11_on (z32 x1.toInt) (z32 x2.toInt) (z32 x3.toInt)) h (fun oW oT H hk => QK_Z hk (Q_on (a := x1.toInt) (b := x2.toInt) (c := x3.toInt) H hk.1 (z32_b x1).1 (z32_b x1).2 (z32_b x2).1 (z32_b x2).2 (z32_b x3).1 (z32_b x3).2))
  simp only [z32_of] at w
  exact w
theorem W_rest (h : INV σ) (x1 x2 : Int32) : CA (fX10_rest x1 x2) (fX11_rest x1 x2) σ := by
  have w := CA_Z (f := fX10_rest (z32 x1.toInt) (z32 x2.toInt)) (g := fX11_rest (z32 x1.toInt) (z32 x2.toInt)) h (fun oW oT H hk => Q_rest (a := x1.toInt) (b := x2.toInt) H hk (z32_b x1).1 (z32_b x1).2 (z32_b x2).1 (z32_b x2).2)
  simp only [z32_of] at w
  exact w
theorem W_hidden (h : INV σ) (x1 x2 x3 : Int32) : CA (fX10_hidden x1 x2 x3) (fX11_hidden x1 x2 x3) σ := by
  have w := CA_Z (f := fX10_hidden (z32 x1.toInt) (z32 x2.toInt) (z32 x3.toInt)) (g := fX11_hidden (z32 x1.toInt) (z32 x2.toInt) (z32 x3.toInt)) h (fun oW oT H hk => Q_hidden (a := x1.toInt) (b := x2.toInt) (c := x3.toInt) H hk (z32_b x1).1 (z32_b x1).2 (z32_b x2).1 (z32_b x2).2 (z32_b x3).1 (z32_b x3).2)
  simp only [z32_of] at w
  exact w
theorem W_tunnel (h : INV σ) (x1 x2 : Int32) : CR (fun s => fX10_tunnel s x1 x2) (fun s => fX11_tunnel s x1 x2) σ := by
  have w := CR_P (f := fun s => fX10_tunnel s (z32 x1.toInt) (z32 x2.toInt)) (g := fun s => fX11_tunnel s (z32 x1.toInt) (z32 x2.toInt)) h (fun oW oT H => Q_tunnel (a := x1.toInt) (b := x2.toInt) H (z32_b x1).1 (z32_b x1).2 (z32_b x2).1 (z32_b x2).2)
  simp only [z32_of] at w
  exact w
theorem W_holder (h : INV σ) (x1 x2 : Int32) : CR (fun s => fX10_holder s x1 x2) (fun s => fX11_holder s x1 x2) σ := by
  have w := CR_P (f := fun s => fX10_holder s (z32 x1.toInt) (z32 x2.toInt)) (g := fun s => fX11_holder s (z32 x1.toInt) (z32 x2.toInt)) h (fun oW oT H => Q_holder (a := x1.toInt) (b := x2.toInt) H (z32_b x1).1 (z32_b x1).2 (z32_b x2).1 (z32_b x2).2)
  simp only [z32_of] at w
  exact w
theorem W_score (h : INV σ) (x1 : Int32) : CR (fun s => fX10_score s x1) (fun s => fX11_score s x1) σ := by
  have w := CR_P (f := fun s => fX10_score s (z32 x1.toInt)) (g := fun s => fX11_score s (z32 x1.toInt)) h (fun oW oT H => Q_score (a := x1.toInt) H (z32_b x1).1 (z32_b x1).2)
  simp only [z32_of] at w
  exact w
theorem W_likely (h : INV σ) (x1 x2 : Int32) : CR (fun s => fX10_likely s x1 x2) (fun s => fX11_likely s x1 x2) σ := by
  have w := CR_P (f := fun s => fX10_likely s (z32 x1.toInt) (z32 x2.toInt)) (g := fun s => fX11_likely s (z32 x1.toInt) (z32 x2.toInt)) h (fun oW oT H => Q_likely (a := x1.toInt) (b := x2.toInt) H (z32_b x1).1 (z32_b x1).2 (z32_b x2).1 (z32_b x2).2)
  simp only [z32_of] at w
  exact w
theorem W_holds (h : INV σ) (x1 x2 x3 : Int32) : CR (fun s => fX10_holds s x1 x2 x3) (fun s => fX11_holds s x1 x2 x3) σ := by
  have w := CR_P (f := fun s => fX10_holds s (z32 x1.toInt) (z32 x2.toInt) (z32 x3.toInt)) (g := fun s => fX11_holds s (z32 x1.toInt) (z32 x2.toInt) (z32 x3.toInt)) h (fun oW oT H => Q_holds (a := x1.toInt) (b := x2.toInt) (c := x3.toInt) H (z32_b x1).1 (z32_b x1).2 (z32_b x2).1 (z32_b x2).2 (z32_b x3).1 (z32_b x3).2)
  simp only [z32_of] at w
  exact w
theorem W_made (h : INV σ) (x1 x2 : Int32) : CR (fun s => fX10_made s x1 x2) (fun s => fX11_made s x1 x2) σ := by
  have w := CR_P (f := fun s => fX10_made s (z32 x1.toInt) (z32 x2.toInt)) (g := fun s => fX11_made s (z32 x1.toInt) (z32 x2.toInt)) h (fun oW oT H => Q_made (a := x1.toInt) (b := x2.toInt) H (z32_b x1).1 (z32_b x1).2 (z32_b x2).1 (z32_b x2).2)
  simp only [z32_of] at w
  exact w
theorem W_pace (h : INV σ) (x1 x2 x3 : Int32) : CR (fun s => fX10_pace s x1 x2 x3) (fun s => fX11_pace s x1 x2 x3) σ := by
  have w := CR_P (f := fun s => fX10_pace s (z32 x1.toInt) (z32 x2.toInt) (z32 x3.toInt)) (g := fun s => fX11_pace s (z32 x1.toInt) (z32 x2.toInt) (z32 x3.toInt)) h (fun oW oT H => Q_pace (a := x1.toInt) (b := x2.toInt) (c := x3.toInt) H (z32_b x1).1 (z32_b x1).2 (z32_b x2).1 (z32_b x2).2 (z32_b x3).1 (z32_b x3).2)
  simp only [z32_of] at w
  exact w
theorem W_has (h : INV σ) (x1 : Int32) : CR (fun s => fX10_has s x1) (fun s => fX11_has s x1) σ := by
  obtain ⟨oW, oT, i1, i2, i3, i4, i5, i6, i7, i8, i9, i10, i11⟩ := h
  have w := Q_has (a := x1.toInt) (IR_C i1 i2) (IR_M i1 i2) i2.2 i9 i4 (z32_b x1).1 (z32_b x1).2
  simp only [z32_of] at w
  exact w
theorem W_letter (h : INV σ) (x1 x2 x3 : Int32) : CR (fun s => fX10_letter s x1 x2 x3) (fun s => fX11_letter s x1 x2 x3) σ := by
  obtain ⟨oW, oT, i1, i2, i3, i4, i5, i6, i7, i8, i9, i10, i11⟩ := h
  have w := Q_letter (a := x1.toInt) (b := x2.toInt) (d := x3.toInt) (IR_C i1 i2) (IR_M i1 i2) i1.2.2.2.2.2.2 (z32_b x1).1 (z32_b x1).2 (z32_b x2).1 (z32_b x2).2 (z32_b x3).1 (z32_b x3).2
  simp only [z32_of] at w
  exact w
theorem W_fit (h : INV σ) (x1 : Int32) : CR (fun s => fX10_fit s x1) (fun s => fX11_fit s x1) σ := by
  obtain ⟨oW, oT, i1, i2, i3, i4, i5, i6, i7, i8, i9, i10, i11⟩ := h
  have w := Q_fit (a := x1.toInt) (IR_C i1 i2) (IR_M i1 i2) i8 (z32_b x1).1 (z32_b x1).2
  simp only [z32_of] at w
  exact w
theorem W_kept (h : INV σ) (x1 x2 : Int32) : CR (fun s => fX10_kept s x1 x2) (fun s => fX11_kept s x1 x2) σ := by
  obtain ⟨oW, oT, i1, i2, i3, i4, i5, i6, i7, i8, i9, i10, i11⟩ := h
  have w := Q_kept (a := x1.toInt) (b := x2.toInt) i2.2 (z32_b x1).1 (z32_b x1).2 (z32_b x2).1 (z32_b x2).2
  simp only [z32_of] at w
  exact w
theorem W_octet (h : INV σ) (x1 : Int32) : CR (fun s => fX10_octet s x1) (fun s => fX11_octet s x1) σ := by
  obtain ⟨oW, oT, i1, i2, i3, i4, i5, i6, i7, i8, i9, i10, i11⟩ := h
  have w := Q_octet (a := x1.toInt) i7 (z32_b x1).1 (z32_b x1).2
  simp only [z32_of] at w
  exact w
theorem W_status (h : INV σ) (x1 : Int32) : CR (fun s => fX10_status s x1) (fun s => fX11_status s x1) σ := by
  obtain ⟨oW, oT, i1, i2, i3, i4, i5, i6, i7, i8, i9, i10, i11⟩ := h
  have w := Q_status (a := x1.toInt) i5 (z32_b x1).1 (z32_b x1).2
  simp only [z32_of] at w
  exact w
theorem W_fault (h : INV σ) (x1 : Int32) : fX10_fault σ x1 = fX11_fault σ x1 := by
  obtain ⟨oW, oT, i1, i2, i3, i4, i5, i6, i7, i8, i9, i10, i11⟩ := h
  exact Q_fault i6 x1
theorem aX_e {β : Type} {L : Nat} {ys : Nat → Int32} {i : Int} (h0 : 0 ≤ i) (h1 : i < L) (h2 : i < 2147483648) : (aX (L, ys) (z32 i) : (Int32 → Option β) → Option β) = fun F => F (ys i.toNat) := by
  funext F
  show (if ixb (z32 i) L = true then F (ys (z32 i).toNatClampNeg) else none) = F (ys i.toNat)
  rw [if_pos (ixb_z h0 h1 h2), z32_nat (by omega) h2]
theorem ca_fin {f g : zS → Option (Int32 × zS)} (h : CA f g σ) {K : zS → Option (Int32 × zS)} (hK : ∀ τ, INV τ → ∃ υ, K τ = some (1, υ)) : ∃ υ, (bnc (f σ) fun v s => bnc (g s) fun v' s' => if v = v' then K s' else some (0, s')) = some (1, υ) := by
  obtain ⟨r, s1, s2, h1, h2, h3⟩ := h
  obtain ⟨υ, hυ⟩ := hK s2 h3
  refine ⟨υ, ?_⟩
  rw [h1, bnc_q]
  show (bnc (g s1) fun v' s' => if r = v' then K s' else some (0, s')) = some (1, υ)
  rw [h2, bnc_q]
  show (if r = r then K s2 else some (0, s2)) = some (1, υ)
  rw [if_pos rfl, hυ]
theorem cr_fin {f g : zS → Option Int32} (h : CR f g σ) (hi : INV σ) {K : zS → Option (Int32 × zS)} (hK : ∀ τ, INV τ → ∃ υ, K τ = some (1, υ)) : ∃ υ, (bnr (f σ) fun v => bnr (g σ) fun v' => if v = v' then K σ else some (0, σ)) = some (1, υ) := by
  obtain ⟨r, h1, h2⟩ := h
  obtain ⟨υ, hυ⟩ := hK σ hi
  refine ⟨υ, ?_⟩
  rw [h1, bnr_q, h2, bnr_q, if_pos rfl, hυ]
theorem law_1 {L : Nat} {ys : Nat → Int32} {i : Int} {f : Nat} (hL : L ≤ 3072) (h0 : 0 ≤ i) (h1 : i + 6 ≤ L) (h : INV σ) (hK : ∀ τ, INV τ → ∃ υ, fL_law_18 (L, ys) f (z32 (i + 6)) τ = some (1, υ)) : ∃ υ, fL_law_18 (L, ys) (f + 1) (z32 i) σ = some (1, υ) := by
  have e6 : Int32.ofNat (L, ys).1 - 6 = z32 ((L : Int) - 6) := by
    show Int32.ofNat L - 6 = _
    rw [z32_ofNat, z32_litn, z32_sub]
  have k1 : z32 i + 1 = z32 (i + 1) := z1p i
  have k2 : z32 i + 2 = z32 (i + 2) := by rw [z32_litn, z32_add]
  have k3 : z32 i + 3 = z32 (i + 3) := by rw [z32_litn, z32_add]
  have k4 : z32 i + 4 = z32 (i + 4) := by rw [z32_litn, z32_add]
  have k5 : z32 i + 5 = z32 (i + 5) := by rw [z32_litn, z32_add]
  have K : ∀ τ, INV τ → ∃ υ, fL_law_1209 (L, ys) (fL_law_18 (L, ys) f) (z32 i) τ = some (1, υ) := fun τ ht => by
    unfold fL_law_1209
    rw [show z32 i + 6 = z32 (i + 6) by rw [z32_litn, z32_add]]
    exact hK τ ht
  rw [fL_law_18, e6, if_neg (by rw [z32_lt (by omega) (by omega) (by omega) (by omega)]; omega), k1, k2, k3, k4, k5, aX_e h0 (by omega) (by omega), aX_e (i := i + 1) (by omega) (by omega) (by omega), aX_e (i := i + 2) (by omega) (by omega) (by omega), aX_e (i := i + 3) (by omega) (by omega) (by omega), aX_e (i := i + 4) (by omega) (by omega) (by omega), aX_e (i := i + 5) (by omega) (by omega) (by omega)]
  try dsimp only
  obtain ⟨o, ho⟩ : ∃ o, o = ys i.toNat &&& 63 := ⟨_, rfl⟩
  rw [← ho]
  by_cases g0 : o = 0
  · rw [if_pos g0]
    exact ca_fin (f := fX10_feed (ys (i + 1).toNat) (ys (i + 2).toNat) (ys (i + 3).toNat) (ys (i + 4).toNat) (ys (i + 5).toNat)) (g := fX11_feed (ys (i + 1).toNat) (ys (i + 2).toNat) (ys (i + 3).toNat) (ys (i + 4).toNat) (ys (i + 5).toNat)) (C_feed h) K
  rw [if_neg g0]
  by_cases g1 : o = 1
  · rw [if_pos g1]
    exact ca_fin (f := fX10_end (ys (i + 1).toNat)) (g := fX11_end (ys (i + 1).toNat)) (W_end h (ys (i + 1).toNat)) K
  rw [if_neg g1]
  by_cases g2 : o = 2
  · rw [if_pos g2]
    exact ca_fin (f := fX10_road) (g := fX11_road) (C_road h) K
  rw [if_neg g2]
  by_cases g3 : o = 3
  · rw [if_pos g3]
    obtain ⟨υ, hυ⟩ := K σ h
    exact ⟨υ, by rw [W_fault h, if_pos rfl, hυ]⟩
  rw [if_neg g3]
  by_cases g4 : o = 4
  · rw [if_pos g4]
    exact cr_fin (f := fun s => fX10_has s (ys (i + 1).toNat)) (g := fun s => fX11_has s (ys (i + 1).toNat)) (W_has h (ys (i + 1).toNat)) h K
  rw [if_neg g4]
  by_cases g5 : o = 5
  · rw [if_pos g5]
    exact cr_fin (f := fun s => fX10_letter s (ys (i + 1).toNat) (ys (i + 2).toNat) (ys (i + 3).toNat)) (g := fun s => fX11_letter s (ys (i + 1).toNat) (ys (i + 2).toNat) (ys (i + 3).toNat)) (W_letter h (ys (i + 1).toNat) (ys (i + 2).toNat) (ys (i + 3).toNat)) h K
  rw [if_neg g5]
  by_cases g6 : o = 6
  · rw [if_pos g6]
    exact cr_fin (f := fun s => fX10_tunnel s (ys (i + 1).toNat) (ys (i + 2).toNat)) (g := fun s => fX11_tunnel s (ys (i + 1).toNat) (ys (i + 2).toNat)) (W_tunnel h (ys (i + 1).toNat) (ys (i + 2).toNat)) h K
  rw [if_neg g6]
  by_cases g7 : o = 7
  · rw [if_pos g7]
    exact cr_fin (f := fun s => fX10_holder s (ys (i + 1).toNat) (ys (i + 2).toNat)) (g := fun s => fX11_holder s (ys (i + 1).toNat) (ys (i + 2).toNat)) (W_holder h (ys (i + 1).toNat) (ys (i + 2).toNat)) h K
  rw [if_neg g7]
  by_cases g8 : o = 8
  · rw [if_pos g8]
    exact cr_fin (f := fun s => fX10_score s (ys (i + 1).toNat)) (g := fun s => fX11_score s (ys (i + 1).toNat)) (W_score h (ys (i + 1).toNat)) h K
  rw [if_neg g8]
  by_cases g9 : o = 9
  · rw [if_pos g9]
    exact cr_fin (f := fun s => fX10_likely s (ys (i + 1).toNat) (ys (i + 2).toNat)) (g := fun s => fX11_likely s (ys (i + 1).toNat) (ys (i + 2).toNat)) (W_likely h (ys (i + 1).toNat) (ys (i + 2).toNat)) h K
  rw [if_neg g9]
  by_cases g10 : o = 10
  · rw [if_pos g10]
    exact cr_fin (f := fun s => fX10_holds s (ys (i + 1).toNat) (ys (i + 2).toNat) (ys (i + 3).toNat)) (g := fun s => fX11_holds s (ys (i + 1).toNat) (ys (i + 2).toNat) (ys (i + 3).toNat)) (W_holds h (ys (i + 1).toNat) (ys (i + 2).toNat) (ys (i + 3).toNat)) h K
  rw [if_neg g10]
  by_cases g11 : o = 11
  · rw [if_pos g11]
    exact cr_fin (f := fun s => fX10_made s (ys (i + 1).toNat) (ys (i + 2).toNat)) (g := fun s => fX11_made s (ys (i + 1).toNat) (ys (i + 2).toNat)) (W_made h (ys (i + 1).toNat) (ys (i + 2).toNat)) h K
  rw [if_neg g11]
  by_cases g12 : o = 12
  · rw [if_pos g12]
    exact ca_fin (f := fX10_worth (ys (i + 1).toNat) (ys (i + 2).toNat) (ys (i + 3).toNat)) (g := fX11_worth (ys (i + 1).toNat) (ys (i + 2).toNat) (ys (i + 3).toNat)) (W_worth h (ys (i + 1).toNat) (ys (i + 2).toNat) (ys (i + 3).toNat)) K
  rw [if_neg g12]
  by_cases g13 : o = 13
  · rw [if_pos g13]
    exact ca_fin (f := fX10_tired (ys (i + 1).toNat) (ys (i + 2).toNat) (ys (i + 3).toNat) (ys (i + 4).toNat)) (g := fX11_tired (ys (i + 1).toNat) (ys (i + 2).toNat) (ys (i + 3).toNat) (ys (i + 4).toNat)) (W_tired h (ys (i + 1).toNat) (ys (i + 2).toNat) (ys (i + 3).toNat) (ys (i + 4).toNat)) K
  rw [if_neg g13]
  by_cases g14 : o = 14
  · rw [if_pos g14]
    exact ca_fin (f := fX10_alone (ys (i + 1).toNat) (ys (i + 2).toNat) (ys (i + 3).toNat)) (g := fX11_alone (ys (i + 1).toNat) (ys (i + 2).toNat) (ys (i + 3).toNat)) (W_alone h (ys (i + 1).toNat) (ys (i + 2).toNat) (ys (i + 3).toNat)) K
  rw [if_neg g14]
  by_cases g15 : o = 15
  · rw [if_pos g15]
    exact ca_fin (f := fX10_on (ys (i + 1).toNat) (ys (i + 2).toNat) (ys (i + 3).toNat)) (g := fX11_on (ys (i + 1).toNat) (ys (i + 2).toNat) (ys (i + 3).toNat)) (W_on h (ys (i + 1).toNat) (ys (i + 2).toNat) (ys (i + 3).toNat)) K
  rw [if_neg g15]
  by_cases g16 : o = 16
  · rw [if_pos g16]
    exact ca_fin (f := fX10_rest (ys (i + 1).toNat) (ys (i + 2).toNat)) (g := fX11_rest (ys (i + 1).toNat) (ys (i + 2).toNat)) (W_rest h (ys (i + 1).toNat) (ys (i + 2).toNat)) K
  rw [if_neg g16]
  by_cases g17 : o = 17
  · rw [if_pos g17]
    exact ca_fin (f := fX10_hidden (ys (i + 1).toNat) (ys (i + 2).toNat) (ys (i + 3).toNat)) (g := fX11_hidden (ys (i + 1).toNat) (ys (i + 2).toNat) (ys (i + 3).toNat)) (W_hidden h (ys (i + 1).toNat) (ys (i + 2).toNat) (ys (i + 3).toNat)) K
  rw [if_neg g17]
  by_cases g18 : o = 18
  · rw [if_pos g18]
    exact cr_fin (f := fun s => fX10_pace s (ys (i + 1).toNat) (ys (i + 2).toNat) (ys (i + 3).toNat)) (g := fun s => fX11_pace s (ys (i + 1).toNat) (ys (i + 2).toNat) (ys (i + 3).toNat)) (W_pace h (ys (i + 1).toNat) (ys (i + 2).toNat) (ys (i + 3).toNat)) h K
  rw [if_neg g18]
  by_cases g19 : o = 19
  · rw [if_pos g19]
    exact ca_fin (f := fX10_whom (ys (i + 1).toNat) (ys (i + 2).toNat) (ys (i + 3).toNat)) (g := fX11_whom (ys (i + 1).toNat) (ys (i + 2).toNat) (ys (i + 3).toNat)) (W_whom h (ys (i + 1).toNat) (ys (i + 2).toNat) (ys (i + 3).toNat)) K
  rw [if_neg g19]
  by_cases g20 : o = 20
  · rw [if_pos g20]
    exact ca_fin (f := fX10_faces (ys (i + 1).toNat)) (g := fX11_faces (ys (i + 1).toNat)) (W_faces h (ys (i + 1).toNat)) K
  rw [if_neg g20]
  by_cases g21 : o = 21
  · rw [if_pos g21]
    exact cr_fin (f := fun s => fX10_fit s (ys (i + 1).toNat)) (g := fun s => fX11_fit s (ys (i + 1).toNat)) (W_fit h (ys (i + 1).toNat)) h K
  rw [if_neg g21]
  by_cases g22 : o = 22
  · rw [if_pos g22]
    exact ca_fin (f := fX10_drive (ys (i + 1).toNat)) (g := fX11_drive (ys (i + 1).toNat)) (W_drive h (ys (i + 1).toNat)) K
  rw [if_neg g22]
  by_cases g23 : o = 23
  · rw [if_pos g23]
    exact ca_fin (f := fX10_pause) (g := fX11_pause) (C_pause h) K
  rw [if_neg g23]
  by_cases g24 : o = 24
  · rw [if_pos g24]
    exact ca_fin (f := fX10_believe (ys (i + 1).toNat) (ys (i + 2).toNat) (ys (i + 3).toNat)) (g := fX11_believe (ys (i + 1).toNat) (ys (i + 2).toNat) (ys (i + 3).toNat)) (W_believe h (ys (i + 1).toNat) (ys (i + 2).toNat) (ys (i + 3).toNat)) K
  rw [if_neg g24]
  by_cases g25 : o = 25
  · rw [if_pos g25]
    exact ca_fin (f := fX10_give (ys (i + 1).toNat) (ys (i + 2).toNat)) (g := fX11_give (ys (i + 1).toNat) (ys (i + 2).toNat)) (W_give h (ys (i + 1).toNat) (ys (i + 2).toNat)) K
  rw [if_neg g25]
  by_cases g26 : o = 26
  · rw [if_pos g26]
    exact ca_fin (f := fX10_undo) (g := fX11_undo) (C_undo h) K
  rw [if_neg g26]
  by_cases g27 : o = 27
  · rw [if_pos g27]
    exact ca_fin (f := fX10_seed (ys (i + 1).toNat)) (g := fX11_seed (ys (i + 1).toNat)) (W_seed h (ys (i + 1).toNat)) K
  rw [if_neg g27]
  by_cases g28 : o = 28
  · rw [if_pos g28]
    exact cr_fin (f := fun s => fX10_kept s (ys (i + 1).toNat) (ys (i + 2).toNat)) (g := fun s => fX11_kept s (ys (i + 1).toNat) (ys (i + 2).toNat)) (W_kept h (ys (i + 1).toNat) (ys (i + 2).toNat)) h K
  rw [if_neg g28]
  by_cases g29 : o = 29
  · rw [if_pos g29]
    exact ca_fin (f := fX10_image) (g := fX11_image) (C_image h) K
  rw [if_neg g29]
  by_cases g30 : o = 30
  · rw [if_pos g30]
    exact cr_fin (f := fun s => fX10_octet s (ys (i + 1).toNat)) (g := fun s => fX11_octet s (ys (i + 1).toNat)) (W_octet h (ys (i + 1).toNat)) h K
  rw [if_neg g30]
  by_cases g31 : o = 31
  · rw [if_pos g31]
    exact ca_fin (f := fX10_goOn) (g := fX11_goOn) (C_goOn h) K
  rw [if_neg g31]
  by_cases g32 : o = 32
  · rw [if_pos g32]
    exact cr_fin (f := fun s => fX10_status s (ys (i + 1).toNat)) (g := fun s => fX11_status s (ys (i + 1).toNat)) (W_status h (ys (i + 1).toNat)) h K
  rw [if_neg g32]
  exact K σ h
theorem law_n {L : Nat} {ys : Nat → Int32} (hL : L ≤ 3072) : ∀ (e : Nat) (i : Int) (f : Nat) (σ : zS), (L : Int) - 6 < i + 6 * e → 0 ≤ i → i ≤ L + 6 → e < f → INV σ → ∃ υ, fL_law_18 (L, ys) f (z32 i) σ = some (1, υ) := by
  intro e
  induction e with
  | zero =>
    intro i f σ h1 h0 h2 hf h
    obtain ⟨g, rfl⟩ : ∃ g, f = g + 1 := ⟨f - 1, by omega⟩
    have e6 : Int32.ofNat (L, ys).1 - 6 = z32 ((L : Int) - 6) := by
      show Int32.ofNat L - 6 = _
      rw [z32_ofNat, z32_litn, z32_sub]
    exact ⟨σ, by rw [fL_law_18, e6, if_pos (by rw [z32_lt (by omega) (by omega) (by omega) (by omega)]; omega)]⟩
  | succ e ih =>
    intro i f σ h1 h0 h2 hf h
    obtain ⟨g, rfl⟩ : ∃ g, f = g + 1 := ⟨f - 1, by omega⟩
    by_cases gi : i + 6 ≤ L
    · exact law_1 hL h0 gi h (fun τ ht => ih (i + 6) g τ (by omega) (by omega) (by omega) (by omega) ht)
    · have e6 : Int32.ofNat (L, ys).1 - 6 = z32 ((L : Int) - 6) := by
        show Int32.ofNat L - 6 = _
        rw [z32_ofNat, z32_litn, z32_sub]
      exact ⟨σ, by rw [fL_law_18, e6, if_pos (by rw [z32_lt (by omega) (by omega) (by omega) (by omega)]; omega)]⟩
theorem zpure : zPure := fun L ys hL => by
  obtain ⟨υ, hυ⟩ := law_n (ys := ys) hL 600 0 zF σ0 (by omega) (by omega) (by omega) (by unfold zF; omega) INV_0
  refine ⟨υ, ?_⟩
  unfold fL_law
  rw [show (0 : Int32) = z32 0 from z32_litn 0, hυ]
end LW

/-! MY OWN: reading sums: joining, commas, closing brackets -/
section CL
variable {A A1 B C σ σ1 τ υ : zS} {c : Int → Int} {N b q a t v sz e om dp ba o kd ph bg od om' o0 D r s E ls kd' : Int} {L : List (Int × Int × ((Int → Int) → Int))} {F G : (Int → Int) → Int}
theorem jn_j (hj : JC B τ c N b q a t v sz e om' dp ba o kd ph bg od) (hC : CH (hI τ 74) (hI τ 75) (hI τ 83) D om E r L om' s F G) (hm : mSeg (hI τ 74) (hI τ 75) s (1600 * b + e) F (D - nbL L)) (hD : 1 ≤ D - nbL L) (hls : ls ≤ r) (hl1 : 1 ≤ ls ∧ ls ≤ 6) (htop : om = ba ∨ rkI (hI τ 83 (om - 1)) < ls) (hba : ba ≤ om) (hE : 0 ≤ E) (ho : o = o0 + nnL L) (h0 : 0 ≤ o0) : ∃ υ, fX11_joins (z32 ls) τ = some υ ∧ fr (jP b e) τ υ ∧ AL B υ c N q a t v ∧ NM υ b (e + (om' - om)) om dp ba o0 kd ph bg ∧ hI υ 56 45 = od ∧ mSeg (hI υ 74) (hI υ 75) E (1600 * b + (e + (om' - om))) G D := by
  obtain ⟨hal, ⟨j1, j2, j3⟩, hn, j4, j5, j6⟩ := hj
  obtain ⟨n1, n2, n3, n4, n5, n6, n7, n8, n9, n10⟩ := hn
  have hb := CH_b _ _ _ _ hC
  have nb0 := nb_0 L
  obtain ⟨υ, u1, u2, u3, u4, u5, u6⟩ := jn_z (ba := ba) n5.2 (by omega) ⟨n6.2.1, hba⟩ hls hl1 hE L τ e om' s o F zF n1.1 n2.1 n4.1 n7.1 n5.1 n6.1 hC hm hD htop n1.2 (by omega) (by omega) (by omega) (by omega) (by unfold zF; omega)
  have v56 : ∀ k, 0 ≤ k → k ≠ 34 → k ≠ 42 → k ≠ 44 → hI υ 56 k = hI τ 56 k := fun k g w1 w2 w3 => (u5.2 56 k g (by unfold jP; omega)).1
  refine ⟨υ, u1, u5, AL_f hal (fun _ _ _ _ => rfl) u5 (fun p k w => by unfold jP at w; omega), ?_, ?_, u6⟩
  · refine ⟨⟨u2, by omega⟩, ⟨u3, by omega, by omega⟩, by omega, ?_, ?_, ?_, ⟨by omega, by omega, by omega⟩, ?_, ?_, ?_⟩
    · rw [v56 _ (by omega) (by omega) (by omega) (by omega)]; exact n4
    · rw [v56 _ (by omega) (by omega) (by omega) (by omega)]; exact n5
    · rw [(u5.2 82 _ (by omega) (by unfold jP; omega)).1]; exact ⟨n6.1, n6.2.1, hba⟩
    · rw [(u5.2 78 _ (by omega) (by unfold jP; omega)).1]; exact n8
    · rw [(u5.2 79 _ (by omega) (by unfold jP; omega)).1]; exact n9
    · rw [(u5.2 80 _ (by omega) (by unfold jP; omega)).1]; exact n10
  · rw [v56 _ (by omega) (by omega) (by omega) (by omega)]; exact j6
theorem fl_j {k : Int} {x : Int32} (hx : x = z32 k) (h : AL A σ c N q a t v) (hk : 0 < k ∧ k < 10) : ∃ B, fX5_fail x (iG A 54 4) A = some B ∧ oR A B ∧ cBk B k q := by
  obtain ⟨⟨c1, c2, c3, c4, c5, c6, c7, c8, c9⟩, -, hp, -⟩ := h
  obtain ⟨p1, p2, p3, p4, p5, p6, p7, p8⟩ := hp
  have hlv : lv A a q (tkc t) (owc t) (hI A 54 7) (hI A 54 8) 0 (-1) := ⟨c3, c4, c5, c6, rfl, rfl, c7, c8⟩
  obtain ⟨B, b1, b2, b3⟩ := fail_0 (k := k) (x := q) hlv (by omega) (by omega)
  refine ⟨B, ?_, b2, lv_bk b3 (by omega)⟩
  rw [hx, show iG A 54 4 = z32 (hI A 54 4) from iG_h A 54 4, c4]
  exact b1
theorem szK_o (h : oR A B) (hs : hI A (rp A.2.2.2.2 + 11) 3 = sz ∧ 0 ≤ sz ∧ sz ≤ q) (hq : q ≤ 1600) : szK B := by
  unfold szK
  rw [oR_sz h]
  omega
theorem ts_t {x : Int32} (hA : tkA A t) (hx : x = z32 s) (hs : isS s) (ht : t = s) : fX5_takeSign x A = bnr (fX5_advance A) fun σ3 => some σ3 := by
  unfold fX5_takeSign
  rw [if_pos (by rw [ca_g hA hx (Or.inl hs)]; exact ht)]
theorem ts_f {x : Int32} (hA : tkA A t) (hx : x = z32 s) (hs : isS s) (ht : t ≠ s) : fX5_takeSign x A = bnr (fX5_fail 1 (iG A 54 4) A) fun σ3 => some σ3 := by
  unfold fX5_takeSign
  rw [if_neg (by rw [ca_g hA hx (Or.inl hs)]; exact ht)]
/-- both at fault at q at a closing joint -/
theorem bad_x {x : Int32} (hj : JC B τ c N b q a t v sz e om' dp ba o kd ph 0 1) (hx : x = z32 s) (hs : isS s) (ht : t ≠ s) (hg : fX11_goesOn τ = some (z32 0, jS (jS τ 56 8 1) 56 9 q)) : ∃ B', fX5_takeSign x B = some B' ∧ BADP B B' τ b q e om (dp - 1) := by
  obtain ⟨hal, hs', hn, j4, j5, j6⟩ := hj
  obtain ⟨hr, hA⟩ := AL_x hal
  obtain ⟨p1, p2, p3, p4, p5, p6, p7, p8⟩ := hal.2.2.1
  obtain ⟨B', b1, b2, b3⟩ := fl_j (k := 1) (z32_litn 1) hal (by omega)
  refine ⟨B', by rw [ts_f hA hx hs ht, b1, bnr_q], 1, q, _, 2, b3, szK_o b2 hs' (by omega), fr_R b2 (fun k _ => by unfold cSB; omega), end_g j6 hg, by omega, Or.inl ⟨fk8 (by omega) (by omega), fk9 (by omega) (by omega), by omega⟩, fr_t (fr_j (by omega) (by unfold sP; omega)) (fr_j (by omega) (by unfold sP; omega))⟩
def cmQ (b e dp : Int) (p : Nat) (k : Int) : Prop := (p = 56 ∧ ((3 ≤ k ∧ k ≤ 9) ∨ k = 12 ∨ k = 34 ∨ k = 42 ∨ k = 44 ∨ k = 45)) ∨ ((p = 74 ∨ p = 75) ∧ 1600 * b + e ≤ k ∧ k < 1600 * b + 1600) ∨ ((p = 78 ∨ p = 79) ∧ k = dp - 1)
theorem cm_s (p : Nat) (k : Int) (_ : 0 ≤ k) (h : cmQ b e dp p k) : sP b e om (dp - 1) p k := by unfold cmQ at h; unfold sP; omega
theorem cls_c {x : Int32} (hx : x = z32 44) (hj : JC B τ c N b q a t v sz e om' dp ba o kd ph 0 1) (hC : CH (hI τ 74) (hI τ 75) (hI τ 83) D om E r L om' s F G) (hm : mSeg (hI τ 74) (hI τ 75) s (1600 * b + e) F (D - nbL L)) (hD : 1 ≤ D - nbL L) (hr1 : 1 ≤ r) (hba : om = ba) (hE : 0 ≤ E) (ho : o = o0 + nnL L) (h0 : 0 ≤ o0) (hdo : dp ≤ o0 + 1) (h1 : ph = 2 ∨ ¬ arT t) (h2 : ¬ isTst kd ∨ (1 ≤ ph ∧ t ≠ 119 ∧ t ≠ 120)) (hk : (kd = 3 ∧ kd' = 4) ∨ (kd = 6 ∧ kd' = 3)) : ∃ B', fX5_takeSign x B = some B' ∧ ((∃ τ' q' a' t' v', JC B' τ' c N b q' a' t' v' sz (e + (om' - om)) om dp ba o0 kd' 0 0 0 ∧ stp τ 1 τ' ∧ q < q' ∧ oR B B' ∧ fr (cmQ b e dp) τ τ' ∧ mSeg (hI τ' 74) (hI τ' 75) E (1600 * b + (e + (om' - om))) G D) ∨ BADP B B' τ b q e om (dp - 1)) := by
  have hjj := hj
  obtain ⟨hal, hs', hn, j4, j5, j6⟩ := hj
  obtain ⟨hr, hA⟩ := AL_x hal
  obtain ⟨p1, p2, p3, p4, p5, p6, p7, p8⟩ := hal.2.2.1
  have hkb : 2 ≤ kd ∧ kd ≤ 6 := by omega
  have g0 := go_422 hn hr h1 h2
  by_cases ht : t = 44
  · obtain ⟨υ, u1, u2, u3, u4, u5, u6⟩ := jn_j hjj hC hm hD hr1 (by omega) (Or.inl hba) (by omega) hE ho h0
    have n4 := u4.2.2.2.1
    have hg := g0.trans (g4_c hr ⟨n4.2.1, n4.2.2⟩ hk ht u1)
    have f1 : fr (fun p k => (p = 78 ∨ p = 79) ∧ k = dp - 1) υ (jS (jS υ 78 (dp - 1) kd') 79 (dp - 1) 0) := fr_t (fr_j (by omega) (by omega)) (fr_j (by omega) (by omega))
    have hal2 : AL B (jS (jS υ 78 (dp - 1) kd') 79 (dp - 1) 0) c N q a t v := AL_f u3 (fun _ _ _ _ => rfl) f1 (fun p k w => by omega)
    have hn2 : NM (jS (jS υ 78 (dp - 1) kd') 79 (dp - 1) 0) b (e + (om' - om)) om dp ba o0 kd' 0 0 := by
      obtain ⟨n1, n2, n3, n4, n5, n6, n7, n8, n9, n10⟩ := u4
      refine ⟨?_, ?_, n3, ?_, ?_, ?_, ?_, ⟨?_, by omega⟩, ⟨?_, by omega⟩, ?_⟩
      · rw [hI_jS_ne (by omega), hI_jS_ne (by omega)]; exact n1
      · rw [hI_jS_ne (by omega), hI_jS_ne (by omega)]; exact n2
      · rw [hI_jS_ne (by omega), hI_jS_ne (by omega)]; exact n4
      · rw [hI_jS_ne (by omega), hI_jS_ne (by omega)]; exact n5
      · rw [hI_jS_ne (by omega), hI_jS_ne (by omega)]; exact n6
      · rw [hI_jS_ne (by omega), hI_jS_ne (by omega)]; exact n7
      · rw [hI_jS_ne (by omega), hI_jS (by omega) (by omega) (by omega) (by omega), if_pos rfl]
      · rw [hI_jS (by omega) (by omega) (by omega) (by omega), if_pos rfl]
      · rw [hI_jS_ne (by omega), hI_jS_ne (by omega)]; exact n10
    obtain ⟨B', τ1, b1, b2, t1, t2, hres⟩ := adv_j hal2 (by omega)
    rw [t1, bnr_q] at hg
    have fQ : fr oQ (jS (jS υ 78 (dp - 1) kd') 79 (dp - 1) 0) (jS τ1 56 45 0) := fr_t (oM_Q t2) (fr_j (by omega) (by unfold oQ; omega))
    have fT : fr (cmQ b e dp) τ (jS τ1 56 45 0) := fr_t (fr_t (fr_m u2 (fun p k _ w => by unfold jP at w; unfold cmQ; omega)) (fr_m f1 (fun p k _ w => by unfold cmQ; omega))) (fr_m fQ (fun p k _ w => by unfold oQ at w; unfold cmQ; omega))
    have hn3 := NM_Q hn2 fQ
    have t45 : hI (jS τ1 56 45 0) 56 45 = 0 := by rw [hI_jS (by omega) (by omega) (by omega) (by omega), if_pos rfl]
    have hts : fX5_takeSign x B = some B' := by rw [ts_t hA hx (by unfold isS; omega) ht, b1, bnr_q]
    refine ⟨B', hts, ?_⟩
    rcases hres with ⟨q', a', t', v', hal3, hq⟩ | ⟨p, hc, hmb⟩
    · left
      have qa := p6 (by omega)
      have h8 : hI (jS τ1 56 45 0) 56 8 = 0 := by rw [hI_j0 (by omega) (by omega) (by omega)]; exact hal3.2.1.2.2.2.1
      refine ⟨_, q', a', t', v', ⟨AL_45 hal3, ⟨by rw [oR_sz b2]; exact hs'.1, hs'.2.1, by omega⟩, hn3, by omega, hdo, t45⟩, stp_g j6 hg h8, by omega, b2, fT, ?_⟩
      refine mSeg_cong u6 (fun i w0 w1 => ?_)
      rw [(fQ.2 74 i (by omega) (by unfold oQ; omega)).1, (fQ.2 75 i (by omega) (by unfold oQ; omega)).1, hI_jS_ne (by omega), hI_jS_ne (by omega), hI_jS_ne (by omega), hI_jS_ne (by omega)]
      exact ⟨rfl, rfl⟩
    · right
      have h8 : hI (jS τ1 56 45 0) 56 8 = 0 := by rw [hI_j0 (by omega) (by omega) (by omega)]; exact hmb.1
      obtain ⟨υ2, w1, w2, w3⟩ := bad_end (mBd_c hmb (fun k g w => by rw [hI_j0 (by omega) g (by omega)]) : mBd (jS τ1 56 45 0) p) hn3 (Or.inl t45)
      have hb := CH_b _ _ _ _ hC
      exact ⟨1, p, υ2, 2 + 1, hc, szK_o b2 hs' (by omega), fr_R b2 (fun k _ => by unfold cSB; omega), stp_e (stp_g j6 hg h8) w1, by omega, w2, fr_t (fr_m fT cm_s) (fr_m w3 (sP_m (by omega) (by omega) (by omega)))⟩
  · obtain ⟨B', b1, b2⟩ := bad_x (om := om) hjj hx (by unfold isS; omega) ht (g0.trans (g4_b hr hkb.1 hkb.2 ⟨fun _ => ht, fun _ => by omega, fun _ => by omega⟩))
    exact ⟨B', b1, Or.inr b2⟩
/-- a closing bracket: X is the other side's state ahead of its next word, number or sign -/
theorem cls_f {x : Int32} {X : zS} {e3 ba0 kd0 ph0 : Int} (hj : JC B τ c N b q a t v sz e om' dp ba o kd ph 0 1) (hx : x = z32 s) (hs : isS s) (ht : t = s) (hal2 : AL B X c N q a t v) (hn2 : NM X b e3 om (dp - 1) ba0 (o0 - 1) kd0 ph0 0) (hg : fX11_goesOn τ = bnr (fX11_ahead X) fun τ => some (z32 1, τ)) (h45 : hI X 56 45 = 1) (fX : fr (sP b e om (dp - 1)) τ X) (he : e ≤ e3) (he3 : e3 + om ≤ q + 1) (hdo : dp ≤ o0 + 1) : ∃ B', fX5_takeSign x B = some B' ∧ ((∃ τ' q' a' t' v', JC B' τ' c N b q' a' t' v' sz e3 om (dp - 1) ba0 (o0 - 1) kd0 ph0 0 1 ∧ stp τ 1 τ' ∧ q < q' ∧ oR B B' ∧ fr (sP b e om (dp - 1)) τ τ' ∧ fr oQ X τ') ∨ BADP B B' τ b q e om (dp - 1)) := by
  obtain ⟨hal, hs', hn, j4, j5, j6⟩ := hj
  obtain ⟨hr, hA⟩ := AL_x hal
  obtain ⟨p1, p2, p3, p4, p5, p6, p7, p8⟩ := hal.2.2.1
  have t1' : t ≠ 1 := by have := isS_b hs; omega
  have qa := p6 t1'
  obtain ⟨B', τ1, b1, b2, t1, t2, hres⟩ := adv_j hal2 t1'
  rw [t1, bnr_q] at hg
  have fQ := oM_Q t2
  have hn3 := NM_Q hn2 fQ
  have t45 : hI τ1 56 45 = 1 := by rw [t2.2.2.1 45 (by omega) (by omega) (by omega) (by omega) (by omega)]; exact h45
  have fT : fr (sP b e om (dp - 1)) τ τ1 := fr_t fX (oM_s t2)
  refine ⟨B', by rw [ts_t hA hx hs ht, b1, bnr_q], ?_⟩
  rcases hres with ⟨q', a', t', v', hal3, hq⟩ | ⟨p, hc, hmb⟩
  · left
    exact ⟨τ1, q', a', t', v', ⟨hal3, ⟨by rw [oR_sz b2]; exact hs'.1, hs'.2.1, by omega⟩, hn3, by omega, by omega, t45⟩, stp_g j6 hg hal3.2.1.2.2.2.1, by omega, b2, fT, fQ⟩
  · right
    obtain ⟨υ2, w1, w2, w3⟩ := bad_end hmb hn3 (Or.inr t45)
    exact ⟨1, p, υ2, 2 + 1, hc, szK_o b2 hs' (by omega), fr_R b2 (fun k _ => by unfold cSB; omega), stp_e (stp_g j6 hg hmb.1) w1, by omega, w2, fr_t fT (fr_m w3 (sP_m he (by omega) (by omega)))⟩
/-- kinds 2 (a sum in brackets), 5 (a test in brackets), 4 (the last sum of a pair or an if) -/
theorem cls_x {x : Int32} {ba0 kd0 ph0 pr sg : Int} (hx : x = z32 sg) (hj : JC B τ c N b q a t v sz e om' dp ba o kd ph 0 1) (hC : CH (hI τ 74) (hI τ 75) (hI τ 83) D om E r L om' s F G) (hm : mSeg (hI τ 74) (hI τ 75) s (1600 * b + e) F (D - nbL L)) (hD : 1 ≤ D - nbL L) (hr1 : 1 ≤ r) (hba : om = ba) (hE : 0 ≤ E) (ho : o = o0 + nnL L) (h0 : 1 ≤ o0) (hdo : dp ≤ o0 + 1) (hd2 : 2 ≤ dp) (h1 : ph = 2 ∨ ¬ arT t) (h2 : ¬ isTst kd ∨ (1 ≤ ph ∧ t ≠ 119 ∧ t ≠ 120)) (hk : (kd = 2 ∧ sg = 41) ∨ (kd = 4 ∧ sg = 41) ∨ (kd = 5 ∧ sg = 93)) (o82 : hI τ 82 (dp - 2) = ba0 ∧ 0 ≤ ba0 ∧ ba0 ≤ om) (o78 : hI τ 78 (dp - 2) = kd0 ∧ 0 ≤ kd0 ∧ kd0 ≤ 6) (o79 : hI τ 79 (dp - 2) = ph0 ∧ 0 ≤ ph0 ∧ ph0 ≤ 2) (o80 : hI τ 80 (dp - 2) = 0) (o81 : kd = 4 → hI τ 81 (dp - 1) = pr ∧ 0 ≤ pr ∧ pr ≤ 30) : ∃ B', fX5_takeSign x B = some B' ∧ ((∃ τ' q' a' t' v' e3, JC B' τ' c N b q' a' t' v' sz e3 om (dp - 1) ba0 (o0 - 1) kd0 (if kd = 5 then 2 else ph0) 0 1 ∧ stp τ 1 τ' ∧ q < q' ∧ oR B B' ∧ fr (sP b e om (dp - 1)) τ τ' ∧ mSeg (hI τ' 74) (hI τ' 75) E (1600 * b + (e + (om' - om))) G D ∧ (if kd = 4 then e3 = e + (om' - om) + 1 ∧ hI τ' 74 (1600 * b + (e + (om' - om))) = pr else e3 = e + (om' - om))) ∨ BADP B B' τ b q e om (dp - 1)) := by
  have hjj := hj
  obtain ⟨hal, hs', hn, j4, j5, j6⟩ := hj
  obtain ⟨hr, hA⟩ := AL_x hal
  obtain ⟨p1, p2, p3, p4, p5, p6, p7, p8⟩ := hal.2.2.1
  have hkb : 2 ≤ kd ∧ kd ≤ 6 := by omega
  have hsg : isS sg := by unfold isS; omega
  have g0 := go_422 hn hr h1 h2
  have hb := CH_b _ _ _ _ hC
  by_cases ht : t = sg
  · obtain ⟨υ, u1, u2, u3, u4, u5, u6⟩ := jn_j hjj hC hm hD hr1 (by omega) (Or.inl hba) (by omega) hE ho (by omega)
    obtain ⟨n1, n2, n3, n4, n5, n6, n7, n8, n9, n10⟩ := u4
    have w56 : ∀ k, 0 ≤ k → (k = 34 ∨ k = 35 ∨ k = 44 ∨ k = 45) → hI (jS (jS υ 56 41 (dp - 1)) 56 42 (o0 - 1)) 56 k = hI υ 56 k := fun k g w => by rw [hI_j0 (by omega) g (by omega), hI_j0 (by omega) g (by omega)]
    have w41 : hI (jS (jS υ 56 41 (dp - 1)) 56 42 (o0 - 1)) 56 41 = dp - 1 := by rw [hI_j0 (by omega) (by omega) (by omega), hI_jS (by omega) (by omega) (by omega) (by omega), if_pos rfl]
    have w42 : hI (jS (jS υ 56 41 (dp - 1)) 56 42 (o0 - 1)) 56 42 = o0 - 1 := by rw [hI_jS (by omega) (by omega) (by omega) (by omega), if_pos rfl]
    have wne : ∀ p k, p ≠ 56 → hI (jS (jS υ 56 41 (dp - 1)) 56 42 (o0 - 1)) p k = hI υ p k := fun p k g => by rw [hI_jS_ne g, hI_jS_ne g]
    have ue : ∀ p k, 0 ≤ k → (p = 78 ∨ p = 79 ∨ p = 80 ∨ p = 81 ∨ p = 82) → hI υ p k = hI τ p k := fun p k g w => (u2.2 p k g (by unfold jP; omega)).1
    have f0 : fr (fun p k => p = 56 ∧ (k = 41 ∨ k = 42)) υ (jS (jS υ 56 41 (dp - 1)) 56 42 (o0 - 1)) := fr_t (fr_j (by omega) (by omega)) (fr_j (by omega) (by omega))
    have hal2 : AL B (jS (jS υ 56 41 (dp - 1)) 56 42 (o0 - 1)) c N q a t v := AL_f u3 (fun _ _ _ _ => rfl) f0 (fun p k w => by omega)
    have hn2 : NM (jS (jS υ 56 41 (dp - 1)) 56 42 (o0 - 1)) b (e + (om' - om)) om (dp - 1) ba0 (o0 - 1) kd0 ph0 0 := by
      refine ⟨?_, ?_, n3, ⟨w41, by omega, by omega⟩, ?_, ?_, ⟨w42, by omega, by omega⟩, ?_, ?_, ⟨?_, by omega⟩⟩
      · rw [w56 _ (by omega) (by omega)]; exact n1
      · rw [w56 _ (by omega) (by omega)]; exact n2
      · rw [w56 _ (by omega) (by omega)]; exact n5
      · rw [wne _ _ (by omega), show dp - 1 - 1 = dp - 2 by omega, ue _ _ (by omega) (by omega)]; exact o82
      · rw [wne _ _ (by omega), show dp - 1 - 1 = dp - 2 by omega, ue _ _ (by omega) (by omega)]; exact o78
      · rw [wne _ _ (by omega), show dp - 1 - 1 = dp - 2 by omega, ue _ _ (by omega) (by omega)]; exact o79
      · rw [wne _ _ (by omega), show dp - 1 - 1 = dp - 2 by omega, ue _ _ (by omega) (by omega)]; exact o80
    have fX0 : fr (sP b e om (dp - 1)) τ (jS (jS υ 56 41 (dp - 1)) 56 42 (o0 - 1)) := fr_t (fr_m u2 (jP_s (by omega))) (fr_m f0 (fun p k _ w => by unfold sP; omega))
    have h45 : hI (jS (jS υ 56 41 (dp - 1)) 56 42 (o0 - 1)) 56 45 = 1 := by rw [w56 _ (by omega) (by omega)]; exact u5
    generalize hX : jS (jS υ 56 41 (dp - 1)) 56 42 (o0 - 1) = X at *
    have mX : mSeg (hI X 74) (hI X 75) E (1600 * b + (e + (om' - om))) G D := mSeg_cong u6 (fun i w0 w1 => ⟨wne _ _ (by omega), wne _ _ (by omega)⟩)
    rcases hk with ⟨k1, k2⟩ | ⟨k1, k2⟩ | ⟨k1, k2⟩
    · have hg := g0.trans (g4_2 hr ⟨n4.2.1, n4.2.2⟩ k1 (by omega) u1 n4.1 n7.1)
      rw [hX] at hg
      obtain ⟨B', b1, b2⟩ := cls_f (om := om) hjj hx hsg ht hal2 hn2 hg h45 fX0 (by omega) (by omega) hdo
      refine ⟨B', b1, ?_⟩
      rcases b2 with ⟨τ', q', a', t', v', d1, d2, d3, d4, d5, d6⟩ | b2
      · left
        refine ⟨τ', q', a', t', v', e + (om' - om), by rw [if_neg (by omega)]; exact d1, d2, d3, d4, d5, ?_, by rw [if_neg (by omega)]⟩
        exact mSeg_cong mX (fun i w0 w1 => ⟨(d6.2 74 i (by omega) (by unfold oQ; omega)).1, (d6.2 75 i (by omega) (by unfold oQ; omega)).1⟩)
      · exact Or.inr b2
    · obtain ⟨r1, r2, r3⟩ := o81 k1
      have hg := g0.trans (g4_4 (pr := pr) hr ⟨n4.2.1, n4.2.2⟩ k1 (by omega) u1 n4.1 n7.1 (by rw [ue _ _ (by omega) (by omega)]; exact r1) n1.1 n5.1 n5.2 n1.2 (by omega))
      rw [hX] at hg
      have f3 : fr (fun p k => ((p = 74 ∨ p = 75) ∧ k = 1600 * b + (e + (om' - om))) ∨ (p = 56 ∧ k = 34)) X (jS (jS (jS X 74 (1600 * b + (e + (om' - om))) pr) 75 (1600 * b + (e + (om' - om))) 0) 56 34 (e + (om' - om) + 1)) := fr_t (fr_t (fr_j (by omega) (by omega)) (fr_j (by omega) (by omega))) (fr_j (by omega) (by omega))
      have hal4 := AL_f hal2 (fun _ _ _ _ => rfl) f3 (fun p k w => by omega)
      have x74 : hI (jS (jS (jS X 74 (1600 * b + (e + (om' - om))) pr) 75 (1600 * b + (e + (om' - om))) 0) 56 34 (e + (om' - om) + 1)) 74 (1600 * b + (e + (om' - om))) = pr := by
        rw [hI_jS_ne (by omega), hI_jS_ne (by omega), hI_jS (by omega) (by omega) (by omega) (by omega), if_pos rfl]
      have x34 : hI (jS (jS (jS X 74 (1600 * b + (e + (om' - om))) pr) 75 (1600 * b + (e + (om' - om))) 0) 56 34 (e + (om' - om) + 1)) 56 34 = e + (om' - om) + 1 := by
        rw [hI_jS (by omega) (by omega) (by omega) (by omega), if_pos rfl]
      generalize hZ : jS (jS (jS X 74 (1600 * b + (e + (om' - om))) pr) 75 (1600 * b + (e + (om' - om))) 0) 56 34 (e + (om' - om) + 1) = Z at *
      have z56 : ∀ k, 0 ≤ k → k ≠ 34 → hI Z 56 k = hI X 56 k := fun k g w => (f3.2 56 k g (by omega)).1
      have zne : ∀ p k, 0 ≤ k → (p = 78 ∨ p = 79 ∨ p = 80 ∨ p = 82) → hI Z p k = hI X p k := fun p k g w => (f3.2 p k g (by omega)).1
      have hn4 : NM Z b (e + (om' - om) + 1) om (dp - 1) ba0 (o0 - 1) kd0 ph0 0 := by
        obtain ⟨y1, y2, y3, y4, y5, y6, y7, y8, y9, y10⟩ := hn2
        refine ⟨⟨x34, by omega⟩, ?_, by omega, ?_, ?_, ?_, ?_, ?_, ?_, ?_⟩
        · rw [z56 _ (by omega) (by omega)]; exact y2
        · rw [z56 _ (by omega) (by omega)]; exact y4
        · rw [z56 _ (by omega) (by omega)]; exact y5
        · rw [zne _ _ (by omega) (by omega)]; exact y6
        · rw [z56 _ (by omega) (by omega)]; exact y7
        · rw [zne _ _ (by omega) (by omega)]; exact y8
        · rw [zne _ _ (by omega) (by omega)]; exact y9
        · rw [zne _ _ (by omega) (by omega)]; exact y10
      obtain ⟨B', b1, b2⟩ := cls_f (om := om) hjj hx hsg ht hal4 hn4 hg (by rw [z56 _ (by omega) (by omega)]; exact h45) (fr_t fX0 (fr_m f3 (fun p k _ w => by unfold sP; omega))) (by omega) (by omega) hdo
      refine ⟨B', b1, ?_⟩
      rcases b2 with ⟨τ', q', a', t', v', d1, d2, d3, d4, d5, d6⟩ | b2
      · left
        refine ⟨τ', q', a', t', v', e + (om' - om) + 1, by rw [if_neg (by omega)]; exact d1, d2, d3, d4, d5, ?_, ?_⟩
        · refine mSeg_cong mX (fun i w0 w1 => ⟨?_, ?_⟩)
          · rw [(d6.2 74 i (by omega) (by unfold oQ; omega)).1, (f3.2 74 i (by omega) (by omega)).1]
          · rw [(d6.2 75 i (by omega) (by unfold oQ; omega)).1, (f3.2 75 i (by omega) (by omega)).1]
        · rw [if_pos k1]
          refine ⟨rfl, ?_⟩
          rw [(d6.2 74 _ (by omega) (by unfold oQ; omega)).1]; exact x74
      · exact Or.inr b2
    · have hg := g0.trans (g4_5 hr ⟨hd2, n4.2.2⟩ k1 (by omega) u1 n4.1 n7.1)
      rw [hX] at hg
      have f3 : fr (fun p k => p = 79 ∧ k = dp - 2) X (jS X 79 (dp - 2) 2) := fr_j (by omega) (by omega)
      have hal4 := AL_f hal2 (fun _ _ _ _ => rfl) f3 (fun p k w => by omega)
      have hn4 : NM (jS X 79 (dp - 2) 2) b (e + (om' - om)) om (dp - 1) ba0 (o0 - 1) kd0 2 0 := by
        obtain ⟨y1, y2, y3, y4, y5, y6, y7, y8, y9, y10⟩ := hn2
        refine ⟨?_, ?_, y3, ?_, ?_, ?_, ?_, ?_, ⟨?_, by omega⟩, ?_⟩
        · rw [hI_jS_ne (by omega)]; exact y1
        · rw [hI_jS_ne (by omega)]; exact y2
        · rw [hI_jS_ne (by omega)]; exact y4
        · rw [hI_jS_ne (by omega)]; exact y5
        · rw [hI_jS_ne (by omega)]; exact y6
        · rw [hI_jS_ne (by omega)]; exact y7
        · rw [hI_jS_ne (by omega)]; exact y8
        · rw [show dp - 1 - 1 = dp - 2 by omega, hI_jS (by omega) (by omega) (by omega) (by omega), if_pos rfl]
        · rw [hI_jS_ne (by omega)]; exact y10
      obtain ⟨B', b1, b2⟩ := cls_f (om := om) hjj hx hsg ht hal4 hn4 hg (by rw [hI_jS_ne (by omega)]; exact h45) (fr_t fX0 (fr_m f3 (fun p k _ w => by unfold sP; omega))) (by omega) (by omega) hdo
      refine ⟨B', b1, ?_⟩
      rcases b2 with ⟨τ', q', a', t', v', d1, d2, d3, d4, d5, d6⟩ | b2
      · left
        refine ⟨τ', q', a', t', v', e + (om' - om), by rw [if_pos k1]; exact d1, d2, d3, d4, d5, ?_, by rw [if_neg (by omega)]⟩
        refine mSeg_cong mX (fun i w0 w1 => ⟨?_, ?_⟩)
        · rw [(d6.2 74 i (by omega) (by unfold oQ; omega)).1, hI_jS_ne (by omega)]
        · rw [(d6.2 75 i (by omega) (by unfold oQ; omega)).1, hI_jS_ne (by omega)]
      · exact Or.inr b2
  · obtain ⟨B', b1, b2⟩ := bad_x (om := om) hjj hx hsg ht (g0.trans (g4_b hr hkb.1 hkb.2 ⟨fun _ => by omega, fun _ => by omega, fun _ => by omega⟩))
    exact ⟨B', b1, Or.inr b2⟩
end CL

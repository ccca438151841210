/-! MY OWN: reading sums: a part: numbers, facts, brackets, what may not stand there -/
def SPX (fn : zS → Option zS) (o lim tr r D : Int) (pre : Int → Int → Int → Int → Prop) (po : Int → Int → Int → ((Int → Int) → Int) → Prop) : Prop := ∀ (A σ : zS) (c : Int → Int) (N b q a t v sz e om dp ba kd ph bg : Int), JC A σ c N b q a t v sz e om dp ba o kd ph bg 0 → om ≤ 6 * o + lim → (om = ba ∨ rkI (hI σ 83 (om - 1)) < tr) → pre t kd ph bg → ∃ B, fn A = some B ∧ (OKP A B σ c N b q sz e om dp ba o kd r D (po ph) ∨ BADP A B σ b q e om dp)
def preS (t kd ph bg : Int) : Prop := ph < 2 ∧ (fsZ kd bg ∨ (t ≠ 121 ∧ t ≠ 91 ∧ t ≠ 122))
def poS (P : Int → Prop) (ph t' ph' : Int) (_ : (Int → Int) → Int) : Prop := ph' = ph ∧ P t'
def preT (_ kd ph bg : Int) : Prop := isTst kd ∧ ph = 0 ∧ bg = 1
def poT (P : Int → Prop) (_ t' ph' : Int) (G : (Int → Int) → Int) : Prop := bT G ∧ (ph' = 1 ∨ ph' = 2) ∧ (ph' = 1 → ¬ arT t') ∧ P t'
def DP (o : Int) : Int := 1 + 5 * (7 - o)
def SpPart (n : Nat) (o : Int) : Prop := SPX (fX5_readPart n (z32 o)) o 5 7 7 (DP o) preS (poS fun _ => True)
def SpProd (n : Nat) (o : Int) : Prop := SPX (fX5_readProduct n (z32 o)) o 4 6 6 (DP o + 1) preS (poS fun t => t ≠ 42 ∧ t ≠ 47 ∧ t ≠ 37)
def SpSum (n : Nat) (o : Int) : Prop := SPX (fX5_readSum n (z32 o)) o 3 5 5 (DP o + 2) preS (poS fun t => ¬ arT t)
def SpFact (n : Nat) (o : Int) : Prop := SPX (fX5_readFact n (z32 o)) o 2 4 3 (DP o + 3) preT (poT fun _ => True)
def SpBoth (n : Nat) (o : Int) : Prop := SPX (fX5_readBoth n (z32 o)) o 1 2 2 (DP o + 4) preT (poT fun t => t ≠ 120)
def SpTest (n : Nat) (o : Int) : Prop := SPX (fX5_readTest n (z32 o)) o 0 1 1 (DP o + 5) preT (poT fun t => t ≠ 120 ∧ t ≠ 119)
section PT
variable {A A1 B C σ σ1 τ υ : zS} {c : Int → Int} {N b q a t v sz e om dp ba o kd ph bg od om' o0 D r s E ls kd' : Int} {n : Nat}
theorem fo_n (hA : tkA A t) (hs : srt t = -1 ∨ t = 3) : fX5_factOf (iG A 54 6) = ((-1)) := by
  obtain ⟨h1, -, h2⟩ := hA
  have tb := tk_b h1
  have hw : owc t = -1 ∨ (0 ≤ owc t ∧ owc t < 25 ∧ t = 100 + owc t) := by unfold owc; split <;> omega
  rw [show iG A 54 6 = z32 (hI A 54 6) from iG_h A 54 6, h2]
  have hx : t ≠ 113 ∧ t ≠ 114 ∧ t ≠ 115 ∧ t ≠ 116 ∧ t ≠ 117 ∧ t ≠ 105 ∧ t ≠ 101 := by
    rcases hs with hs | hs
    · refine ⟨?_, ?_, ?_, ?_, ?_, ?_, ?_⟩ <;> (intro h; rw [h] at hs; revert hs; decide)
    · omega
  generalize owc t = w at *
  rcases (by omega : w = -1 ∨ w = 0 ∨ w = 2 ∨ w = 3 ∨ w = 4 ∨ w = 6 ∨ w = 7 ∨ w = 8 ∨ w = 9 ∨ w = 10 ∨ w = 11 ∨ w = 12 ∨ w = 18 ∨ w = 19 ∨ w = 20 ∨ w = 21 ∨ w = 22 ∨ w = 23 ∨ w = 24) with h | h | h | h | h | h | h | h | h | h | h | h | h | h | h | h | h | h | h <;> subst h <;> decide
theorem srt_c (hs : 0 ≤ srt t) : t = 3 ∨ t = 113 ∨ t = 114 ∨ t = 115 ∨ t = 116 ∨ t = 117 ∨ t = 105 ∨ t = 101 := by
  unfold srt at hs
  repeat' split at hs
  all_goals omega
theorem srt_n (hs : ¬ 0 ≤ srt t) : srt t = -1 := by
  unfold srt at hs ⊢
  repeat' split
  all_goals simp_all
/-- the one side's code for a number or a fact, and what it reckons -/
theorem pc_leaf (hA : tkA A t) (hs : 0 ≤ srt t) (h8 : t = 3 → hI A 54 8 = v ∧ 0 ≤ v ∧ v ≤ 9999) (hsz : hI A (rp A.2.2.2.2 + 11) 3 = sz) (s0 : 0 ≤ sz) (s1 : sz < 1600) : ∃ cd G, fX5_readPart (n + 1) (z32 o) A = (bnr (fX5_advance (jS (jS A (rp A.2.2.2.2 + 12) sz cd) (rp A.2.2.2.2 + 11) 3 (sz + 1))) fun B => some B) ∧ (0 ≤ cd ∧ cd < 2147483648) ∧ bF G ∧ (∀ (C : Int → Int) (d : Int), C sz = cd → 1 ≤ d → cSeg A.2.2.2.2 C sz (sz + 1) G d) ∧ (∀ (S V : Int → Int) (i d : Int), 0 ≤ i → i < 3200 → 1 ≤ d → S i = srt t → (t = 3 → V i = v) → (t ≠ 3 → V i = 0) → mSeg S V i (i + 1) G d) := by
  by_cases g : t = 3
  · obtain ⟨h8, v0, v1⟩ := h8 g
    refine ⟨v * 64 + 1, fun _ => v, ?_, by omega, fun f _ => by simp only []; omega, fun C d h1 h2 => cSeg_num s0 v0 v1 h2 h1, fun S V i d h0 h1 h2 h3 h4 h5 => ?_⟩
    · rw [rdPart, if_pos (by rw [ca3 hA]; exact g), show iG A 54 8 = z32 (hI A 54 8) from iG_h A 54 8, h8, z32_litn, cadd_z hsz s0 s1 (by omega) (by omega), bnc_q]
    · rw [show srt t = 0 by rw [g]; decide] at h3
      refine mSeg_leaf h0 h1 h2 h3 (by omega) (by omega) (by rw [h4 g]; omega) ?_
      funext f
      rw [if_pos rfl, h4 g]
  · have h := srt_c hs
    have key : ∀ i : Int, 0 ≤ i → i < 7 → srt t = i + 1 → fX5_factOf (iG A 54 6) = z32 i → ∃ cd G, fX5_readPart (n + 1) (z32 o) A = (bnr (fX5_advance (jS (jS A (rp A.2.2.2.2 + 12) sz cd) (rp A.2.2.2.2 + 11) 3 (sz + 1))) fun B => some B) ∧ (0 ≤ cd ∧ cd < 2147483648) ∧ bF G ∧ (∀ (C : Int → Int) (d : Int), C sz = cd → 1 ≤ d → cSeg A.2.2.2.2 C sz (sz + 1) G d) ∧ (∀ (S V : Int → Int) (i d : Int), 0 ≤ i → i < 3200 → 1 ≤ d → S i = srt t → (t = 3 → V i = v) → (t ≠ 3 → V i = 0) → mSeg S V i (i + 1) G d) := by
      intro i i0 i1 i2 i3
      refine ⟨i * 64 + 2, fun f => f i, ?_, by omega, fun f hf => by have := hf i i0 i1; simp only []; omega, fun C d h1 h2 => cSeg_fact s0 i0 i1 h2 h1, fun S V j d h0 h1 h2 h3 h4 h5 => ?_⟩
      · rw [rdPart, if_neg (by rw [ca3 hA]; exact g), i3, if_neg (by rw [z32_litn, z32_neg, z32_eq (by omega) (by omega) (by omega) (by omega)]; omega), z32_litn, cadd_z hsz s0 s1 (by omega) (by omega), bnc_q]
      · refine mSeg_leaf h0 h1 h2 h3 (by omega) (by omega) (by rw [h5 g]; omega) ?_
        funext f
        rw [i2, if_neg (by omega), if_pos (by omega), show i + 1 - 1 = i by omega]
    have e6 : iG A 54 6 = z32 (owc t) := by rw [show iG A 54 6 = z32 (hI A 54 6) from iG_h A 54 6, hA.2.2]
    rcases h with h | h | h | h | h | h | h | h
    · exact absurd h g
    · exact key 0 (by omega) (by omega) (by rw [h]; decide) (by rw [e6, h]; decide)
    · exact key 1 (by omega) (by omega) (by rw [h]; decide) (by rw [e6, h]; decide)
    · exact key 2 (by omega) (by omega) (by rw [h]; decide) (by rw [e6, h]; decide)
    · exact key 3 (by omega) (by omega) (by rw [h]; decide) (by rw [e6, h]; decide)
    · exact key 4 (by omega) (by omega) (by rw [h]; decide) (by rw [e6, h]; decide)
    · exact key 5 (by omega) (by omega) (by rw [h]; decide) (by rw [e6, h]; decide)
    · exact key 6 (by omega) (by omega) (by rw [h]; decide) (by rw [e6, h]; decide)
theorem P_leaf (hj : JC A σ c N b q a t v sz e om dp ba o kd ph bg 0) (hp : preS t kd ph bg) (hs : 0 ≤ srt t) (hD : 1 ≤ D) : ∃ B, fX5_readPart (n + 1) (z32 o) A = some B ∧ (OKP A B σ c N b q sz e om dp ba o kd 7 D (poS (fun _ => True) ph) ∨ BADP A B σ b q e om dp) := by
  have hjj := hj
  obtain ⟨hal, ⟨j1, j2, j3⟩, hn, j4, j5, j6⟩ := hj
  obtain ⟨hr, hA⟩ := AL_x hal
  obtain ⟨p1, p2, p3, p4, p5, p6, p7, p8⟩ := hal.2.2.1
  have t1 : t ≠ 1 := by have := srt_c hs; omega
  have qa := p6 t1
  have hrp := rp_or A.2.2.2.2
  have hm := hal.2.1.2.2.2.2.2.2
  obtain ⟨cd, G, g1, g2, g3, g4, g5⟩ := pc_leaf (n := n) (o := o) (v := v) hA hs (fun w => ⟨hal.1.2.2.2.2.2.2.2.2 w, (hm.2.1 w).2.2⟩) j1 j2 (by omega)
  rw [g1]
  obtain ⟨h1, h2⟩ := op_171 hn hr hp.2
  obtain ⟨n1, n2, n3, n4, n5, n6, n7, n8, n9, n10⟩ := hn
  have hop := h1.trans (o171_l h2 hs (e := e) (b := b) (by rw [hI_jS_ne (by omega)]; exact n1.1) (by rw [hI_jS_ne (by omega)]; exact n5.1) n5.2.1 n5.2.2 n1.2 (by omega))
  have e6 : hI (jS σ 80 (dp - 1) 0) 56 6 = hI σ 56 6 := hI_jS_ne (by omega)
  rw [e6] at hop
  have hsb : srt t ≤ 7 := by
    have := srt_c hs
    rcases this with h | h | h | h | h | h | h | h <;> rw [h] <;> decide
  have l1 := hI_lo σ 56 6
  have l2 := hI_hi σ 56 6
  have y74 : hI (jS (jS (jS (jS σ 80 (dp - 1) 0) 74 (1600 * b + e) (srt t)) 75 (1600 * b + e) (hI σ 56 6)) 56 34 (e + 1)) 74 (1600 * b + e) = srt t := by
    rw [hI_jS_ne (by omega), hI_jS_ne (by omega), hI_jS (by omega) (by omega) (by omega) (by omega), if_pos rfl]
  have y75 : hI (jS (jS (jS (jS σ 80 (dp - 1) 0) 74 (1600 * b + e) (srt t)) 75 (1600 * b + e) (hI σ 56 6)) 56 34 (e + 1)) 75 (1600 * b + e) = hI σ 56 6 := by
    rw [hI_jS_ne (by omega), hI_jS (by omega) (by omega) (by omega) (by omega), if_pos rfl]
  refine fin_leaf (ph' := ph) (G := G) hjj t1 (fr_t (fr_j (by omega) (by unfold cS; omega)) (fr_j (by omega) (by unfold cS; omega))) (fun p k g w => by rw [hI_jS_ne (by omega), hI_jS_ne (by omega)]) ?_ (fr_t (fr_t (fr_t (fr_j (by omega) (by unfold lQ; omega)) (fr_j (by omega) (by unfold lQ; omega))) (fr_j (by omega) (by unfold lQ; omega))) (fr_j (by omega) (by unfold lQ; omega))) ?_ ?_ ?_ n9.2 hop ?_ ?_ g3 hD (fun t' => ⟨rfl, trivial⟩)
  · rw [hI_jS (by omega) (by omega) (by omega) (by omega), if_pos rfl]
  · rw [hI_jS (by omega) (by omega) (by omega) (by omega), if_pos rfl]
  · rw [hI_jS_ne (by omega), hI_jS_ne (by omega), hI_jS_ne (by omega), hI_jS (by omega) (by omega) (by omega) (by omega), if_pos rfl]
  · rw [hI_jS_ne (by omega), hI_jS_ne (by omega), hI_jS_ne (by omega), hI_jS_ne (by omega)]; exact n9.1
  · refine g4 _ _ ?_ hD
    rw [hI_jS_ne (by omega), hI_jS (by omega) (by omega) (by omega) (by omega), if_pos rfl]
  · refine g5 _ _ _ _ (by omega) (by omega) hD y74 (fun w => by rw [y75]; exact (hm.2.1 w).2.1) (fun w => ?_)
    rw [y75]
    exact (hm.2.2.2.2 (by have := srt_c hs; omega)).2.2
/-- both sides at fault where they stand -/
theorem bad_o {k x : Int} {X : zS} {f : zS → Option zS} (hj : JC A σ c N b q a t v sz e om dp ba o kd ph bg 0) (hf : f A = bnr (fX5_fail (z32 k) (iG A 54 4) A) fun B => some B) (hk : 0 < k ∧ k < 10) (hx : x = 0 ∨ x = 1) (ho : fX11_operand σ = some (z32 x, jS (jS X 56 8 k) 56 9 q)) (fX : fr (sP b e om dp) σ X) : ∃ B, f A = some B ∧ BADP A B σ b q e om dp := by
  obtain ⟨hal, hs', hn, j4, j5, j6⟩ := hj
  obtain ⟨p1, p2, p3, p4, p5, p6, p7, p8⟩ := hal.2.2.1
  obtain ⟨B, b1, b2, b3⟩ := fl_j (k := k) (rfl : z32 k = z32 k) hal hk
  have f8 : hI (jS (jS X 56 8 k) 56 9 q) 56 8 = k := fk8 (by omega) (by omega)
  have f9 : hI (jS (jS X 56 8 k) 56 9 q) 56 9 = q := fk9 (by omega) (by omega)
  refine ⟨B, by rw [hf, b1, bnr_q], k, q, _, 2, b3, szK_o b2 hs' (by omega), fr_R b2 (fun k _ => by unfold cSB; omega), end_o j6 ho hx (by rw [f8]; omega), by omega, Or.inl ⟨?_, ?_, hk.1⟩, fr_t (fr_t (fr_t fX (fr_j (by omega) (by unfold sP; omega))) (fr_j (by omega) (by unfold sP; omega))) (fr_j (by omega) (by unfold sP; omega))⟩
  · rw [hI_j0 (by omega) (by omega) (by omega)]; exact f8
  · rw [hI_j0 (by omega) (by omega) (by omega)]; exact f9
theorem P_bad (hj : JC A σ c N b q a t v sz e om dp ba o kd ph bg 0) (hp : preS t kd ph bg) (hs : srt t = -1) (ht : t ≠ 40 ∧ t ≠ 123 ∧ t ≠ 124 ∧ t ≠ 118) : ∃ B, fX5_readPart (n + 1) (z32 o) A = some B ∧ BADP A B σ b q e om dp := by
  obtain ⟨hr, hA⟩ := AL_x hj.1
  have hn := hj.2.2.1
  have t3 : t ≠ 3 := by intro h; rw [h] at hs; revert hs; decide
  obtain ⟨h1, h2⟩ := op_171 hn hr hp.2
  have n4 := hn.2.2.2.1
  refine bad_o (k := 1) (x := 1) (X := jS σ 80 (dp - 1) 0) (f := fX5_readPart (n + 1) (z32 o)) hj ?_ (by omega) (Or.inr rfl) (h1.trans (o171_b h2 ⟨ht.1, ht.2.1, ht.2.2.1, ht.2.2.2, hs⟩)) (fr_j (by omega) (by unfold sP; omega))
  rw [rdPart, if_neg (by rw [ca3 hA]; exact t3), if_pos (fo_n hA (Or.inl hs)), if_neg (by rw [ca40 hA]; exact ht.1), if_neg (by rw [cb18 hA]; exact ht.2.2.2), if_neg (by rw [cb23 hA]; exact ht.2.1), if_neg (by rw [cb24 hA]; exact ht.2.2.1)]
  rfl
theorem io_t {x : Int32} (hA : tkA A t) (hx : x = z32 s) (hs : isS s) (ht : t = s) (h0 : 0 ≤ o) (ho : o < 7) : fX5_isOpened x (z32 o) A = bnr (fX5_advance A) fun σ1 => some (1, σ1) := by
  unfold fX5_isOpened
  rw [if_pos (by rw [ca_g hA hx (Or.inl hs)]; exact ht), if_pos (by rw [z32_litn, z32_lt (by omega) (by omega) (by omega) (by omega)]; exact ho)]
theorem io_7 {x : Int32} (hA : tkA A t) (hx : x = z32 s) (hs : isS s) (ht : t = s) (ho : o = 7) : fX5_isOpened x (z32 o) A = bnr (fX5_fail 5 (iG A 54 4) A) fun σ3 => some (0, σ3) := by
  unfold fX5_isOpened
  rw [if_pos (by rw [ca_g hA hx (Or.inl hs)]; exact ht), if_neg (by rw [z32_litn, z32_lt (by omega) (by omega) (by omega) (by omega)]; omega)]
theorem io_f {x p2 : Int32} (hA : tkA A t) (hx : x = z32 s) (hs : isS s) (ht : t ≠ s) : fX5_isOpened x p2 A = bnr (fX5_fail 1 (iG A 54 4) A) fun σ5 => some (0, σ5) := by
  unfold fX5_isOpened
  rw [if_neg (by rw [ca_g hA hx (Or.inl hs)]; exact ht)]
theorem pQ_s (p : Nat) (k : Int) (_ : 0 ≤ k) (h : pQ dp p k) : sP b e om dp p k := by unfold pQ at h; unfold sP; omega
theorem i10 : ¬ ((1 : Int32) = 0) := by decide
/-- a bracket is opened where a part or a fact stands: the other side's step is `opens` -/
theorem brk {kd2 sg : Int} {x : Int32} {T : zS → Option zS} (hj : JC A σ c N b q a t v sz e om dp ba o kd ph bg 0) (hx : x = z32 sg) (hsg : isS sg) (ht : t = sg) (hk : 0 ≤ kd2 ∧ kd2 ≤ 6) (hop : fX11_operand σ = bnr (fX11_opens (z32 kd2) (jS σ 80 (dp - 1) 0)) fun υ => some (z32 0, υ)) (hT : BK T) : (∃ B, (bnc (fX5_isOpened x (z32 o) A) fun v11 σ9 => if v11 = 0 then some σ9 else T σ9) = some B ∧ BADP A B σ b q e om dp) ∨ (o < 7 ∧ ∃ B1 σ2 q1 a1 t1 v1, (bnc (fX5_isOpened x (z32 o) A) fun v11 σ9 => if v11 = 0 then some σ9 else T σ9) = T B1 ∧ JC B1 σ2 c N b q1 a1 t1 v1 sz e om (dp + 1) om (o + 1) kd2 0 1 0 ∧ stp σ 1 σ2 ∧ q < q1 ∧ oR A B1 ∧ fr (sP b e om dp) σ σ2 ∧ (hI σ2 78 (dp - 1) = kd ∧ hI σ2 79 (dp - 1) = ph ∧ hI σ2 80 (dp - 1) = 0 ∧ hI σ2 82 (dp - 1) = ba)) := by
  have hjj := hj
  obtain ⟨hal, hs', hn, j4, j5, j6⟩ := hj
  obtain ⟨hr, hA⟩ := AL_x hal
  obtain ⟨p1, p2, p3, p4, p5, p6, p7, p8⟩ := hal.2.2.1
  have t1' : t ≠ 1 := by have := isS_b hsg; omega
  have qa := p6 t1'
  have hnn := hn
  obtain ⟨n1, n2, n3, n4, n5, n6, n7, n8, n9, n10⟩ := hn
  by_cases ho : o < 7
  · have f0 : fr (fun p k => p = 80 ∧ k = dp - 1) σ (jS σ 80 (dp - 1) 0) := fr_j (by omega) (by omega)
    have hal0 : AL A (jS σ 80 (dp - 1) 0) c N q a t v := AL_f hal (fun _ _ _ _ => rfl) f0 (fun p k w => by omega)
    have hn0 : NM (jS σ 80 (dp - 1) 0) b e om dp ba o kd ph 0 := by
      refine ⟨?_, ?_, n3, ?_, ?_, ?_, ?_, ?_, ?_, ⟨?_, by omega⟩⟩
      · rw [hI_jS_ne (by omega)]; exact n1
      · rw [hI_jS_ne (by omega)]; exact n2
      · rw [hI_jS_ne (by omega)]; exact n4
      · rw [hI_jS_ne (by omega)]; exact n5
      · rw [hI_jS_ne (by omega)]; exact n6
      · rw [hI_jS_ne (by omega)]; exact n7
      · rw [hI_jS_ne (by omega)]; exact n8
      · rw [hI_jS_ne (by omega)]; exact n9
      · rw [hI_jS (by omega) (by omega) (by omega) (by omega), if_pos rfl]
    obtain ⟨B1, τ, b1, b2, t1, t8, t2, t3, t4⟩ := open_j (kd2 := kd2) hal0 t1' hn0 hk ho j5 hs' j4
    rw [t1, bnr_q] at hop
    have f1 : fr (sP b e om dp) σ (jS τ 56 45 0) := fr_t (fr_t (fr_m f0 (fun p k _ w => by unfold sP; omega)) (fr_m t2 pQ_s)) (fr_j (by omega) (by unfold sP; omega))
    have st := stp_o j6 hop (Or.inl rfl) t8
    have hcl : (bnc (fX5_isOpened x (z32 o) A) fun v11 σ9 => if v11 = 0 then some σ9 else T σ9) = T B1 := by
      rw [io_t hA hx hsg ht n7.2.1 ho, b1, bnr_q, bnc_q, if_neg i10]
    rcases t4 with ⟨q1, a1, t1, v1, hj2, hq, -⟩ | ⟨p, hc, hm⟩
    · right
      refine ⟨ho, B1, _, q1, a1, t1, v1, hcl, hj2, st, by omega, b2, f1, ?_, ?_, ?_, ?_⟩
      · rw [hI_jS_ne (by omega), (t2.2 78 _ (by omega) (by unfold pQ; omega)).1, hI_jS_ne (by omega)]; exact n8.1
      · rw [hI_jS_ne (by omega), (t2.2 79 _ (by omega) (by unfold pQ; omega)).1, hI_jS_ne (by omega)]; exact n9.1
      · rw [hI_jS_ne (by omega), (t2.2 80 _ (by omega) (by unfold pQ; omega)).1, hI_jS (by omega) (by omega) (by omega) (by omega), if_pos rfl]
      · rw [hI_jS_ne (by omega), (t2.2 82 _ (by omega) (by unfold pQ; omega)).1, hI_jS_ne (by omega)]; exact n6.1
    · left
      have t45 : hI (jS τ 56 45 0) 56 45 = 0 := by rw [hI_jS (by omega) (by omega) (by omega) (by omega), if_pos rfl]
      obtain ⟨υ2, w1, w2, w3⟩ := bad_end (mBd_c hm (fun k g w => by rw [hI_j0 (by omega) g (by omega)]) : mBd (jS τ 56 45 0) p) t3 (Or.inl t45)
      have hb : BADP A B1 σ b q e om dp := ⟨1, p, υ2, 2 + 1, hc, szK_o b2 hs' (by omega), fr_R b2 (fun k _ => by unfold cSB; omega), stp_e st w1, by omega, w2, fr_t f1 (fr_m w3 (sP_m (by omega) (by omega) (by omega)))⟩
      rw [hcl]
      exact BAD_post hb hT
  · left
    have o7 : o = 7 := by omega
    have h42 : hI (jS σ 80 (dp - 1) 0) 56 42 = 7 := by rw [hI_jS_ne (by omega)]; omega
    rw [opn_7 (q := q) h42 (by rw [hI_jS_ne (by omega)]; exact hr.1) (by rw [hI_jS_ne (by omega)]; exact hr.2.2.1), bnr_q] at hop
    have hf : (bnc (fX5_isOpened x (z32 o) A) fun v11 σ9 => if v11 = 0 then some σ9 else T σ9) = bnr (fX5_fail (z32 5) (iG A 54 4) A) fun B => some B := by
      rw [io_7 hA hx hsg ht o7, z32_litn]
      cases fX5_fail (z32 5) (iG A 54 4) A with
      | none => rfl
      | some B => rw [bnr_q, bnr_q, bnc_q, if_pos rfl]
    exact bad_o (k := 5) (x := 0) (X := jS σ 80 (dp - 1) 0) (f := fun A => bnc (fX5_isOpened x (z32 o) A) fun v11 σ9 => if v11 = 0 then some σ9 else T σ9) hjj hf (by omega) (Or.inl rfl) hop (fr_j (by omega) (by unfold sP; omega))
end PT

/-! MY OWN: reading sums: products, sums, facts, tests; all of it -/
section LL
variable {A A1 B C σ σ1 τ υ : zS} {c : Int → Int} {N b q a t v sz e om dp ba o kd ph bg od om' o0 D r s E ls kd' q' t' ph' r' : Int} {n : Nat} {G : (Int → Int) → Int}
theorem BK_part' (hn : 1 ≤ n) {x : Int32} : BK (fX5_readPart n x) := by
  obtain ⟨m, rfl⟩ : ∃ m, n = m + 1 := ⟨n - 1, by omega⟩
  exact BK_part
theorem BK_prod' (hn : 2 ≤ n) {x : Int32} : BK (fX5_readProduct n x) := by
  obtain ⟨m, rfl⟩ : ∃ m, n = m + 2 := ⟨n - 2, by omega⟩
  exact BK_prod
theorem BK_fact' (hn : 5 ≤ n) {x : Int32} : BK (fX5_readFact n x) := by
  obtain ⟨m, rfl⟩ : ∃ m, n = m + 5 := ⟨n - 5, by omega⟩
  exact BK_fact
theorem BK_both' (hn : 6 ≤ n) {x : Int32} : BK (fX5_readBoth n x) := by
  obtain ⟨m, rfl⟩ : ∃ m, n = m + 6 := ⟨n - 6, by omega⟩
  exact BK_both
theorem BK_prod7' (g : Nat) {o x : Int32} : BK (fX5_readProduct'_7 (ggGX5_readBoth n) (g + 1) o x) :=
  BK_c BK_s (fun A k p h => by
    rw [rdProd7]
    split
    · rfl
    · rw [if_neg (b5 (s := 42) h (z32_litn 42) (by omega) (by omega) (by omega)), if_neg (b5 (s := 47) h (z32_litn 47) (by omega) (by omega) (by omega)), if_neg (b5 (s := 37) h (z32_litn 37) (by omega) (by omega) (by omega))])
theorem BK_sum7' (g : Nat) {o x : Int32} : BK (fX5_readSum'_7 (ggGX5_readBoth n) (g + 1) o x) :=
  BK_c BK_s (fun A k p h => by
    rw [rdSum7]
    split
    · rfl
    · rw [if_neg (b5 (s := 43) h (z32_litn 43) (by omega) (by omega) (by omega)), if_neg (b5 (s := 45) h (z32_litn 45) (by omega) (by omega) (by omega))])
theorem BK_both7' (g : Nat) {o x : Int32} : BK (fX5_readBoth'_7 (ggGX5_readBoth n) (g + 1) o x) :=
  BK_c BK_s (fun A k p h => by
    rw [rdBoth7]
    split
    · rfl
    · rw [if_neg (b6 (s := 20) h (z32_litn 20) (by omega) (by omega))])
theorem BK_test7' (g : Nat) {o x : Int32} : BK (fX5_readTest'_7 (ggGX5_readBoth n) (g + 1) o x) :=
  BK_c BK_s (fun A k p h => by
    rw [rdTest7]
    split
    · rfl
    · rw [if_neg (b6 (s := 19) h (z32_litn 19) (by omega) (by omega))])
theorem OKL_x (h : OKL A B σ c N b q sz e om dp ba o kd r D q' t' ph' G) : tkA B t' ∧ (q < q' ∧ q' ≤ 1600) ∧ (t' ≠ 1 → q' < 1600) := by
  obtain ⟨τ, a', v', sz', e', om', o', s, L, F, k, h1, h2, h3, h4, h5, h6, h7, h8, h9, h10⟩ := h
  obtain ⟨hr, hA⟩ := AL_x h1.1
  obtain ⟨p1, p2, p3, p4, p5, p6, p7, p8⟩ := h1.1.2.2.1
  refine ⟨hA, ⟨h2.1, by omega⟩, fun w => ?_⟩
  have := p6 w
  omega
theorem prod_lp (hP : SpPart n o) (hn : 1 ≤ n) (hj : JC A σ c N b q a t v sz e om dp ba o kd ph bg 0) (hl : om ≤ 6 * o + 4) (htop : om = ba ∨ rkI (hI σ 83 (om - 1)) < 6) (hph : ph < 2) : ∀ (f : Nat) (i : Int) (B : zS) (q' t' ph' : Int) (G : (Int → Int) → Int), OKL A B σ c N b q sz e om dp ba o kd 6 (DP o + 1) q' t' ph' G → ph' = ph → 0 ≤ i → i < q' → 1601 - q' ≤ f → ∃ C, fX5_readProduct'_7 (ggGX5_readBoth n) f (z32 o) (z32 i) B = some C ∧ (OKP A C σ c N b q sz e om dp ba o kd 6 (DP o + 1) (poS (fun t => t ≠ 42 ∧ t ≠ 47 ∧ t ≠ 37) ph) ∨ BADP A C σ b q e om dp) := by
  have hn0 := hj.2.2.1
  have sA := hj.2.1
  have j5 := hj.2.2.2.2.1
  obtain ⟨-, p2, p3, p4, p5, -⟩ := hj.1.2.2.1
  have n9 := hn0.2.2.2.2.2.2.2.2.1
  have n7 := hn0.2.2.2.2.2.2.1
  intro f
  induction f with
  | zero =>
    intro i B q' t' ph' G hO _ _ _ hf
    have := (OKL_x hO).2.1
    omega
  | succ f ih =>
    intro i B q' t' ph' G hO hpp hi hiq hf
    obtain ⟨hA, hq1, hq2⟩ := OKL_x hO
    rw [rdProd7, if_neg (by rw [z32_litn, z32_le (by omega) (by omega) (by omega) (by omega)]; omega)]
    by_cases ht : t' = 42 ∨ t' = 47 ∨ t' = 37
    · have ht1 : t' ≠ 1 := by omega
      have hq3 := hq2 ht1
      obtain ⟨g, rfl⟩ : ∃ g, f = g + 1 := ⟨f - 1, by omega⟩
      have e5 : iG B 54 5 = z32 t' := by
        rw [show iG B 54 5 = z32 (hI B 54 5) from iG_h B 54 5, hA.2.1]
        unfold tkc
        rw [if_neg (by omega)]
      obtain ⟨m, hm⟩ : ∃ m : Int, (t' = 42 ∧ m = 12) ∨ (t' = 47 ∧ m = 13) ∨ (t' = 37 ∧ m = 14) := by
        rcases ht with h | h | h
        · exact ⟨12, by omega⟩
        · exact ⟨13, by omega⟩
        · exact ⟨14, by omega⟩
      have hz : zcd m = t' ∧ rkI m = 6 := by rcases hm with ⟨h1, h2⟩ | ⟨h1, h2⟩ | ⟨h1, h2⟩ <;> subst h1 h2 <;> decide
      have hcl : (if (iG B 54 5) = 42 then (bnr (fX5_advance B) fun σ3 => bnr (fX5_readPart n (z32 o) σ3) fun σ5 => bnc (fX8_add σ5.2.2.2.2 (iG B 54 5) 0 σ5) fun v9 σ7 => fX5_readProduct'_7 (ggGX5_readBoth n) (g + 1) (z32 o) (z32 i + 1) σ7) else if (iG B 54 5) = 47 then (bnr (fX5_advance B) fun σ3 => bnr (fX5_readPart n (z32 o) σ3) fun σ5 => bnc (fX8_add σ5.2.2.2.2 (iG B 54 5) 0 σ5) fun v9 σ7 => fX5_readProduct'_7 (ggGX5_readBoth n) (g + 1) (z32 o) (z32 i + 1) σ7) else if (iG B 54 5) = 37 then (bnr (fX5_advance B) fun σ3 => bnr (fX5_readPart n (z32 o) σ3) fun σ5 => bnc (fX8_add σ5.2.2.2.2 (iG B 54 5) 0 σ5) fun v9 σ7 => fX5_readProduct'_7 (ggGX5_readBoth n) (g + 1) (z32 o) (z32 i + 1) σ7) else some B) = (bnr (fX5_advance B) fun σ3 => bnr (fX5_readPart n (z32 o) σ3) fun σ5 => bnc (fX8_add σ5.2.2.2.2 (iG B 54 5) 0 σ5) fun v9 σ7 => fX5_readProduct'_7 (ggGX5_readBoth n) (g + 1) (z32 o) (z32 i + 1) σ7) := by
        rcases ht with h | h | h
        · rw [if_pos (by rw [ca42 hA]; exact h)]
        · rw [if_neg (by rw [ca42 hA]; omega), if_pos (by rw [ca47 hA]; exact h)]
        · rw [if_neg (by rw [ca42 hA]; omega), if_neg (by rw [ca47 hA]; omega), if_pos (by rw [ca37 hA]; exact h)]
      rw [hcl]
      have hls := lp_step (T := fun σ7 => fX5_readProduct'_7 (ggGX5_readBoth n) (g + 1) (z32 o) (z32 i + 1) σ7) (X := fun τ1 => τ1) (m := m) (ph2 := ph') (bg2 := 0) (lim := 4) (D1 := DP o + 1) (by rw [e5, hz.1] : iG B 54 5 = z32 (zcd m)) hP (BK_part' hn) (BK_prod7' g) hn0 j5 sA.2.1 p2 hl (by omega) htop (by omega) hz.2 (by omega) (by omega) (by omega) (by omega) (by omega) (by unfold DP; omega) hO ht1 (fun τ1 => ⟨fr_r, fun w => w, fun w => w⟩) (by omega) (by omega)
        (fun τ υ v' e' om' o' h1 h2 h3 h4 h5 => go_ar h1 h2 (by omega) (by omega) h3 h4) (fun t => ⟨by omega, Or.inl (by unfold fsZ; omega)⟩) (fun w => by omega)
      rcases hls with ⟨C, c1, c2⟩ | ⟨B3, q2, t2, ph2, G2, c1, c2, c3, c4⟩
      · exact ⟨C, c1, Or.inr c2⟩
      · rw [c1, z1p]
        exact ih (i + 1) B3 q2 t2 ph2 _ c2 (c3.1.trans hpp) (by omega) (by omega) (by omega)
    · rw [if_neg (by rw [ca42 hA]; omega), if_neg (by rw [ca47 hA]; omega), if_neg (by rw [ca37 hA]; omega)]
      exact ⟨B, rfl, Or.inl (OK_L hO ⟨hpp, by omega⟩)⟩
theorem sp_prod (hn : 1 ≤ n) (hP : SpPart n o) : SpProd (n + 1) o := by
  intro A σ c N b q a t v sz e om dp ba kd ph bg hj hl htop hp
  rw [rdProd]
  obtain ⟨B, b1, b2⟩ := hP A σ c N b q a t v sz e om dp ba kd ph bg hj (by omega) (Or.inr (by have := rk_b (hI σ 83 (om - 1)); omega)) hp
  rw [b1, bnr_q]
  rcases b2 with b2 | b2
  · obtain ⟨q', t', ph', G, hL, hpo⟩ := L_OK b2
    obtain ⟨hA, hq1, hq2⟩ := OKL_x hL
    obtain ⟨-, p2, -⟩ := hj.1.2.2.1
    rw [show (0 : Int32) = z32 0 from z32_litn 0]
    exact prod_lp hP hn hj hl htop hp.1 zF 0 B q' t' ph' G (OKL_m hL (by omega) (by omega)) hpo.1 (by omega) (by omega) (by unfold zF; omega)
  · obtain ⟨C, c1, c2⟩ := BAD_post b2 (BK_prod7 (n := n) (o := z32 o) (x := 0))
    exact ⟨C, c1, Or.inr c2⟩
theorem sum_lp (hP : SpProd n o) (hn : 2 ≤ n) (hj : JC A σ c N b q a t v sz e om dp ba o kd ph bg 0) (hl : om ≤ 6 * o + 3) (htop : om = ba ∨ rkI (hI σ 83 (om - 1)) < 5) (hph : ph < 2) : ∀ (f : Nat) (i : Int) (B : zS) (q' t' ph' : Int) (G : (Int → Int) → Int), OKL A B σ c N b q sz e om dp ba o kd 5 (DP o + 2) q' t' ph' G → ph' = ph → (t' ≠ 42 ∧ t' ≠ 47 ∧ t' ≠ 37) → 0 ≤ i → i < q' → 1601 - q' ≤ f → ∃ C, fX5_readSum'_7 (ggGX5_readBoth n) f (z32 o) (z32 i) B = some C ∧ (OKP A C σ c N b q sz e om dp ba o kd 5 (DP o + 2) (poS (fun t => ¬ arT t) ph) ∨ BADP A C σ b q e om dp) := by
  have hn0 := hj.2.2.1
  have sA := hj.2.1
  have j5 := hj.2.2.2.2.1
  obtain ⟨-, p2, p3, p4, p5, -⟩ := hj.1.2.2.1
  have n9 := hn0.2.2.2.2.2.2.2.2.1
  have n7 := hn0.2.2.2.2.2.2.1
  intro f
  induction f with
  | zero =>
    intro i B q' t' ph' G hO _ _ _ _ hf
    have := (OKL_x hO).2.1
    omega
  | succ f ih =>
    intro i B q' t' ph' G hO hpp htt hi hiq hf
    obtain ⟨hA, hq1, hq2⟩ := OKL_x hO
    rw [rdSum7, if_neg (by rw [z32_litn, z32_le (by omega) (by omega) (by omega) (by omega)]; omega)]
    by_cases ht : t' = 43 ∨ t' = 45
    · have ht1 : t' ≠ 1 := by omega
      have hq3 := hq2 ht1
      obtain ⟨g, rfl⟩ : ∃ g, f = g + 1 := ⟨f - 1, by omega⟩
      have e5 : iG B 54 5 = z32 t' := by
        rw [show iG B 54 5 = z32 (hI B 54 5) from iG_h B 54 5, hA.2.1]
        unfold tkc
        rw [if_neg (by omega)]
      obtain ⟨m, hm⟩ : ∃ m : Int, (t' = 43 ∧ m = 10) ∨ (t' = 45 ∧ m = 11) := by
        rcases ht with h | h
        · exact ⟨10, by omega⟩
        · exact ⟨11, by omega⟩
      have hz : zcd m = t' ∧ rkI m = 5 := by rcases hm with ⟨h1, h2⟩ | ⟨h1, h2⟩ <;> subst h1 h2 <;> decide
      have hcl : (if (iG B 54 5) = 43 then (bnr (fX5_advance B) fun σ3 => bnr (fX5_readProduct n (z32 o) σ3) fun σ5 => bnc (fX8_add σ5.2.2.2.2 (iG B 54 5) 0 σ5) fun v9 σ7 => fX5_readSum'_7 (ggGX5_readBoth n) (g + 1) (z32 o) (z32 i + 1) σ7) else if (iG B 54 5) = 45 then (bnr (fX5_advance B) fun σ3 => bnr (fX5_readProduct n (z32 o) σ3) fun σ5 => bnc (fX8_add σ5.2.2.2.2 (iG B 54 5) 0 σ5) fun v9 σ7 => fX5_readSum'_7 (ggGX5_readBoth n) (g + 1) (z32 o) (z32 i + 1) σ7) else some B) = (bnr (fX5_advance B) fun σ3 => bnr (fX5_readProduct n (z32 o) σ3) fun σ5 => bnc (fX8_add σ5.2.2.2.2 (iG B 54 5) 0 σ5) fun v9 σ7 => fX5_readSum'_7 (ggGX5_readBoth n) (g + 1) (z32 o) (z32 i + 1) σ7) := by
        rcases ht with h | h
        · rw [if_pos (by rw [ca43 hA]; exact h)]
        · rw [if_neg (by rw [ca43 hA]; omega), if_pos (by rw [ca45 hA]; exact h)]
      rw [hcl]
      have hls := lp_step (T := fun σ7 => fX5_readSum'_7 (ggGX5_readBoth n) (g + 1) (z32 o) (z32 i + 1) σ7) (X := fun τ1 => τ1) (m := m) (ph2 := ph') (bg2 := 0) (lim := 3) (D1 := DP o + 2) (by rw [e5, hz.1] : iG B 54 5 = z32 (zcd m)) hP (BK_prod' hn) (BK_sum7' g) hn0 j5 sA.2.1 p2 hl (by omega) htop (by omega) hz.2 (by omega) (by omega) (by omega) (by omega) (by omega) (by unfold DP; omega) hO ht1 (fun τ1 => ⟨fr_r, fun w => w, fun w => w⟩) (by omega) (by omega)
        (fun τ υ v' e' om' o' h1 h2 h3 h4 h5 => go_ar h1 h2 (by omega) (by omega) h3 h4) (fun t => ⟨by omega, Or.inl (by unfold fsZ; omega)⟩) (fun w => by omega)
      rcases hls with ⟨C, c1, c2⟩ | ⟨B3, q2, t2, ph2, G2, c1, c2, c3, c4⟩
      · exact ⟨C, c1, Or.inr c2⟩
      · rw [c1, z1p]
        exact ih (i + 1) B3 q2 t2 ph2 _ c2 (c3.1.trans hpp) c3.2 (by omega) (by omega) (by omega)
    · rw [if_neg (by rw [ca43 hA]; omega), if_neg (by rw [ca45 hA]; omega)]
      exact ⟨B, rfl, Or.inl (OK_L hO ⟨hpp, by unfold arT; omega⟩)⟩
theorem sp_sum (hn : 2 ≤ n) (hP : SpProd n o) : SpSum (n + 1) o := by
  intro A σ c N b q a t v sz e om dp ba kd ph bg hj hl htop hp
  rw [rdSum]
  obtain ⟨B, b1, b2⟩ := hP A σ c N b q a t v sz e om dp ba kd ph bg hj (by omega) (by omega) hp
  rw [b1, bnr_q]
  rcases b2 with b2 | b2
  · obtain ⟨q', t', ph', G, hL, hpo⟩ := L_OK b2
    obtain ⟨hA, hq1, hq2⟩ := OKL_x hL
    obtain ⟨-, p2, -⟩ := hj.1.2.2.1
    rw [show (0 : Int32) = z32 0 from z32_litn 0]
    exact sum_lp hP hn hj hl htop hp.1 zF 0 B q' t' ph' G (OKL_m hL (by omega) (by omega)) hpo.1 hpo.2 (by omega) (by omega) (by unfold zF; omega)
  · obtain ⟨C, c1, c2⟩ := BAD_post b2 (BK_sum7 (n := n) (o := z32 o) (x := 0))
    exact ⟨C, c1, Or.inr c2⟩
theorem bT_c {m : Int} {F G : (Int → Int) → Int} (hm : 17 ≤ m ∧ m ≤ 19) : bT (fun f => zop m (F f) (G f)) := fun f _ => by
  unfold zop
  rcases (by omega : m = 17 ∨ m = 18 ∨ m = 19) with h | h | h <;> subst h <;> simp <;> omega
theorem bT_ao {m : Int} {F G : (Int → Int) → Int} (hm : m = 20 ∨ m = 21) (hF : bT F) (hG : bT G) : bT (fun f => zop m (F f) (G f)) := fun f hf => by
  have := hF f hf
  have := hG f hf
  unfold zop
  rcases hm with h | h <;> subst h <;> simp <;> split <;> omega
theorem both_lp (hP : SpFact n o) (hn : 5 ≤ n) (hj : JC A σ c N b q a t v sz e om dp ba o kd ph bg 0) (hl : om ≤ 6 * o + 1) (htop : om = ba ∨ rkI (hI σ 83 (om - 1)) < 2) (hk : isTst kd) : ∀ (f : Nat) (i : Int) (B : zS) (q' t' ph' : Int) (G : (Int → Int) → Int), OKL A B σ c N b q sz e om dp ba o kd 2 (DP o + 4) q' t' ph' G → bT G → (ph' = 1 ∨ ph' = 2) → (ph' = 1 → ¬ arT t') → 0 ≤ i → i < q' → 1601 - q' ≤ f → ∃ C, fX5_readBoth'_7 (ggGX5_readBoth n) f (z32 o) (z32 i) B = some C ∧ (OKP A C σ c N b q sz e om dp ba o kd 2 (DP o + 4) (poT (fun t => t ≠ 120) ph) ∨ BADP A C σ b q e om dp) := by
  have hn0 := hj.2.2.1
  have sA := hj.2.1
  have j5 := hj.2.2.2.2.1
  obtain ⟨-, p2, p3, p4, p5, -⟩ := hj.1.2.2.1
  have n4 := hn0.2.2.2.1
  have n7 := hn0.2.2.2.2.2.2.1
  intro f
  induction f with
  | zero =>
    intro i B q' t' ph' G hO _ _ _ _ _ hf
    have := (OKL_x hO).2.1
    omega
  | succ f ih =>
    intro i B q' t' ph' G hO hb1 hb2 hb3 hi hiq hf
    obtain ⟨hA, hq1, hq2⟩ := OKL_x hO
    rw [rdBoth7, if_neg (by rw [z32_litn, z32_le (by omega) (by omega) (by omega) (by omega)]; omega)]
    by_cases ht : t' = 120
    · have ht1 : t' ≠ 1 := by omega
      have hq3 := hq2 ht1
      obtain ⟨g, rfl⟩ : ∃ g, f = g + 1 := ⟨f - 1, by omega⟩
      rw [if_pos (by rw [cb20 hA]; exact ht)]
      have hls := lp_step (T := fun σ7 => fX5_readBoth'_7 (ggGX5_readBoth n) (g + 1) (z32 o) (z32 i + 1) σ7) (X := fun τ1 => jS (jS τ1 79 (dp - 1) 0) 80 (dp - 1) 1) (m := 20) (r1 := 2) (ph2 := 0) (bg2 := 1) (lim := 1) (D1 := DP o + 4) ((z32_litn 6).trans (congrArg z32 (by decide)) : (6 : Int32) = z32 (zcd 20)) hP (BK_fact' hn) (BK_both7' g) hn0 j5 sA.2.1 p2 hl (by omega) htop (by omega) (by decide) (by omega) (by omega) (by omega) (by omega) (by omega) (by unfold DP; omega) hO ht1 (fun τ1 => ⟨fr_t (fr_j (by omega) (by unfold xQ; omega)) (fr_j (by omega) (by unfold xQ; omega)), fun w => by rw [hI_jS_ne (by omega), hI_jS (by omega) (by omega) (by omega) (by omega), if_pos rfl], fun w => by rw [hI_jS (by omega) (by omega) (by omega) (by omega), if_pos rfl]⟩) (by omega) (by omega)
        (fun τ υ v' e' om' o' h1 h2 h3 h4 h5 => go_ao h1 h2 hk (by omega) (by omega) h3) (fun t => ⟨hk, rfl, rfl⟩) (fun w => ⟨hb1, fun _ _ G2 hp => hp.1⟩)
      rcases hls with ⟨C, c1, c2⟩ | ⟨B3, q2, t2, ph2, G2, c1, c2, c3, c4⟩
      · exact ⟨C, c1, Or.inr c2⟩
      · rw [c1, z1p]
        exact ih (i + 1) B3 q2 t2 ph2 _ c2 (bT_ao (Or.inl rfl) hb1 c3.1) c3.2.1 c3.2.2.1 (by omega) (by omega) (by omega)
    · rw [if_neg (by rw [cb20 hA]; exact ht)]
      exact ⟨B, rfl, Or.inl (OK_L hO ⟨hb1, hb2, hb3, ht⟩)⟩
theorem sp_both (hn : 5 ≤ n) (hP : SpFact n o) : SpBoth (n + 1) o := by
  intro A σ c N b q a t v sz e om dp ba kd ph bg hj hl htop hp
  rw [rdBoth]
  obtain ⟨B, b1, b2⟩ := hP A σ c N b q a t v sz e om dp ba kd ph bg hj (by omega) (by omega) hp
  rw [b1, bnr_q]
  rcases b2 with b2 | b2
  · obtain ⟨q', t', ph', G, hL, hpo⟩ := L_OK b2
    obtain ⟨hA, hq1, hq2⟩ := OKL_x hL
    obtain ⟨-, p2, -⟩ := hj.1.2.2.1
    rw [show (0 : Int32) = z32 0 from z32_litn 0]
    exact both_lp hP hn hj hl htop hp.1 zF 0 B q' t' ph' G (OKL_m hL (by omega) (by omega)) hpo.1 hpo.2.1 hpo.2.2.1 (by omega) (by omega) (by unfold zF; omega)
  · obtain ⟨C, c1, c2⟩ := BAD_post b2 (BK_both7 (n := n) (o := z32 o) (x := 0))
    exact ⟨C, c1, Or.inr c2⟩
theorem test_lp (hP : SpBoth n o) (hn : 6 ≤ n) (hj : JC A σ c N b q a t v sz e om dp ba o kd ph bg 0) (hl : om ≤ 6 * o + 0) (htop : om = ba ∨ rkI (hI σ 83 (om - 1)) < 1) (hk : isTst kd) : ∀ (f : Nat) (i : Int) (B : zS) (q' t' ph' : Int) (G : (Int → Int) → Int), OKL A B σ c N b q sz e om dp ba o kd 1 (DP o + 5) q' t' ph' G → bT G → (ph' = 1 ∨ ph' = 2) → (ph' = 1 → ¬ arT t') → t' ≠ 120 → 0 ≤ i → i < q' → 1601 - q' ≤ f → ∃ C, fX5_readTest'_7 (ggGX5_readBoth n) f (z32 o) (z32 i) B = some C ∧ (OKP A C σ c N b q sz e om dp ba o kd 1 (DP o + 5) (poT (fun t => t ≠ 120 ∧ t ≠ 119) ph) ∨ BADP A C σ b q e om dp) := by
  have hn0 := hj.2.2.1
  have sA := hj.2.1
  have j5 := hj.2.2.2.2.1
  obtain ⟨-, p2, p3, p4, p5, -⟩ := hj.1.2.2.1
  have n4 := hn0.2.2.2.1
  have n7 := hn0.2.2.2.2.2.2.1
  intro f
  induction f with
  | zero =>
    intro i B q' t' ph' G hO _ _ _ _ _ _ hf
    have := (OKL_x hO).2.1
    omega
  | succ f ih =>
    intro i B q' t' ph' G hO hb1 hb2 hb3 hb4 hi hiq hf
    obtain ⟨hA, hq1, hq2⟩ := OKL_x hO
    rw [rdTest7, if_neg (by rw [z32_litn, z32_le (by omega) (by omega) (by omega) (by omega)]; omega)]
    by_cases ht : t' = 119
    · have ht1 : t' ≠ 1 := by omega
      have hq3 := hq2 ht1
      obtain ⟨g, rfl⟩ : ∃ g, f = g + 1 := ⟨f - 1, by omega⟩
      rw [if_pos (by rw [cb19 hA]; exact ht)]
      have hls := lp_step (T := fun σ7 => fX5_readTest'_7 (ggGX5_readBoth n) (g + 1) (z32 o) (z32 i + 1) σ7) (X := fun τ1 => jS (jS τ1 79 (dp - 1) 0) 80 (dp - 1) 1) (m := 21) (r1 := 1) (ph2 := 0) (bg2 := 1) (lim := 0) (D1 := DP o + 5) ((z32_litn 7).trans (congrArg z32 (by decide)) : (7 : Int32) = z32 (zcd 21)) hP (BK_both' hn) (BK_test7' g) hn0 j5 sA.2.1 p2 hl (by omega) htop (by omega) (by decide) (by omega) (by omega) (by omega) (by omega) (by omega) (by unfold DP; omega) hO ht1 (fun τ1 => ⟨fr_t (fr_j (by omega) (by unfold xQ; omega)) (fr_j (by omega) (by unfold xQ; omega)), fun w => by rw [hI_jS_ne (by omega), hI_jS (by omega) (by omega) (by omega) (by omega), if_pos rfl], fun w => by rw [hI_jS (by omega) (by omega) (by omega) (by omega), if_pos rfl]⟩) (by omega) (by omega)
        (fun τ υ v' e' om' o' h1 h2 h3 h4 h5 => go_ao h1 h2 hk (by omega) (by omega) h3) (fun t => ⟨hk, rfl, rfl⟩) (fun w => ⟨hb1, fun _ _ G2 hp => hp.1⟩)
      rcases hls with ⟨C, c1, c2⟩ | ⟨B3, q2, t2, ph2, G2, c1, c2, c3, c4⟩
      · exact ⟨C, c1, Or.inr c2⟩
      · rw [c1, z1p]
        exact ih (i + 1) B3 q2 t2 ph2 _ c2 (bT_ao (Or.inr rfl) hb1 c3.1) c3.2.1 c3.2.2.1 c3.2.2.2 (by omega) (by omega) (by omega)
    · rw [if_neg (by rw [cb19 hA]; exact ht)]
      exact ⟨B, rfl, Or.inl (OK_L hO ⟨hb1, hb2, hb3, hb4, ht⟩)⟩
theorem sp_test (hn : 6 ≤ n) (hP : SpBoth n o) : SpTest (n + 1) o := by
  intro A σ c N b q a t v sz e om dp ba kd ph bg hj hl htop hp
  rw [rdTest]
  obtain ⟨B, b1, b2⟩ := hP A σ c N b q a t v sz e om dp ba kd ph bg hj (by omega) (by omega) hp
  rw [b1, bnr_q]
  rcases b2 with b2 | b2
  · obtain ⟨q', t', ph', G, hL, hpo⟩ := L_OK b2
    obtain ⟨hA, hq1, hq2⟩ := OKL_x hL
    obtain ⟨-, p2, -⟩ := hj.1.2.2.1
    rw [show (0 : Int32) = z32 0 from z32_litn 0]
    exact test_lp hP hn hj hl htop hp.1 zF 0 B q' t' ph' G (OKL_m hL (by omega) (by omega)) hpo.1 hpo.2.1 hpo.2.2.1 hpo.2.2.2 (by omega) (by omega) (by unfold zF; omega)
  · obtain ⟨C, c1, c2⟩ := BAD_post b2 (BK_test7 (n := n) (o := z32 o) (x := 0))
    exact ⟨C, c1, Or.inr c2⟩
end LL

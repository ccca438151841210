/-! MY OWN: what stands next in the text, and both sides' step to it -/
def s8 (x d : Int) : Int := if d = 0 then x else x * 256 + (d + 96)
def cv (p : Int) : Int := s8 (s8 (s8 (s8 (s8 (s8 0 (p / 33554432 % 32)) (p / 1048576 % 32)) (p / 32768 % 32)) (p / 1024 % 32)) (p / 32 % 32)) (p % 32)
def vc (w : Int) : Int := if w < 256 then (w - 96) * 33554432 else if w < 65536 then (w / 256 - 96) * 33554432 + (w % 256 - 96) * 1048576 else if w < 16777216 then (w / 65536 - 96) * 33554432 + (w / 256 % 256 - 96) * 1048576 + (w % 256 - 96) * 32768 else if w < 4294967296 then (w / 16777216 - 96) * 33554432 + (w / 65536 % 256 - 96) * 1048576 + (w / 256 % 256 - 96) * 32768 + (w % 256 - 96) * 1024 else if w < 1099511627776 then (w / 4294967296 - 96) * 33554432 + (w / 16777216 % 256 - 96) * 1048576 + (w / 65536 % 256 - 96) * 32768 + (w / 256 % 256 - 96) * 1024 + (w % 256 - 96) * 32 else (w / 1099511627776 - 96) * 33554432 + (w / 4294967296 % 256 - 96) * 1048576 + (w / 16777216 % 256 - 96) * 32768 + (w / 65536 % 256 - 96) * 1024 + (w / 256 % 256 - 96) * 32 + (w % 256 - 96)
theorem cv_pk {l : Nat → Int} {m : Nat} (h1 : 1 ≤ m) (h6 : m ≤ 6) (hl : ∀ i, i < m → 1 ≤ l i ∧ l i ≤ 26) : cv (pk5 l m) = pk8 l m := by
  rcases (by omega : m = 1 ∨ m = 2 ∨ m = 3 ∨ m = 4 ∨ m = 5 ∨ m = 6) with h | h | h | h | h | h <;> subst h
  · have h0 := hl 0 (by omega)
    have d0 : pk5 l 1 / 33554432 % 32 = l 0 := by simp [pk5]; omega
    have d1 : pk5 l 1 / 1048576 % 32 = 0 := by simp [pk5]; omega
    have d2 : pk5 l 1 / 32768 % 32 = 0 := by simp [pk5]; omega
    have d3 : pk5 l 1 / 1024 % 32 = 0 := by simp [pk5]; omega
    have d4 : pk5 l 1 / 32 % 32 = 0 := by simp [pk5]; omega
    have d5 : pk5 l 1 % 32 = 0 := by simp [pk5]; omega
    unfold cv
    rw [d0, d1, d2, d3, d4, d5]
    simp only [s8, if_neg (show ¬ l 0 = 0 by omega), if_true, pk8]
  · have h0 := hl 0 (by omega)
    have h1 := hl 1 (by omega)
    have d0 : pk5 l 2 / 33554432 % 32 = l 0 := by simp [pk5]; omega
    have d1 : pk5 l 2 / 1048576 % 32 = l 1 := by simp [pk5]; omega
    have d2 : pk5 l 2 / 32768 % 32 = 0 := by simp [pk5]; omega
    have d3 : pk5 l 2 / 1024 % 32 = 0 := by simp [pk5]; omega
    have d4 : pk5 l 2 / 32 % 32 = 0 := by simp [pk5]; omega
    have d5 : pk5 l 2 % 32 = 0 := by simp [pk5]; omega
    unfold cv
    rw [d0, d1, d2, d3, d4, d5]
    simp only [s8, if_neg (show ¬ l 0 = 0 by omega), if_neg (show ¬ l 1 = 0 by omega), if_true, pk8]
  · have h0 := hl 0 (by omega)
    have h1 := hl 1 (by omega)
    have h2 := hl 2 (by omega)
    have d0 : pk5 l 3 / 33554432 % 32 = l 0 := by simp [pk5]; omega
    have d1 : pk5 l 3 / 1048576 % 32 = l 1 := by simp [pk5]; omega
    have d2 : pk5 l 3 / 32768 % 32 = l 2 := by simp [pk5]; omega
    have d3 : pk5 l 3 / 1024 % 32 = 0 := by simp [pk5]; omega
    have d4 : pk5 l 3 / 32 % 32 = 0 := by simp [pk5]; omega
    have d5 : pk5 l 3 % 32 = 0 := by simp [pk5]; omega
    unfold cv
    rw [d0, d1, d2, d3, d4, d5]
    simp only [s8, if_neg (show ¬ l 0 = 0 by omega), if_neg (show ¬ l 1 = 0 by omega), if_neg (show ¬ l 2 = 0 by omega), if_true, pk8]
  · have h0 := hl 0 (by omega)
    have h1 := hl 1 (by omega)
    have h2 := hl 2 (by omega)
    have h3 := hl 3 (by omega)
    have d0 : pk5 l 4 / 33554432 % 32 = l 0 := by simp [pk5]; omega
    have d1 : pk5 l 4 / 1048576 % 32 = l 1 := by simp [pk5]; omega
    have d2 : pk5 l 4 / 32768 % 32 = l 2 := by simp [pk5]; omega
    have d3 : pk5 l 4 / 1024 % 32 = l 3 := by simp [pk5]; omega
    have d4 : pk5 l 4 / 32 % 32 = 0 := by simp [pk5]; omega
    have d5 : pk5 l 4 % 32 = 0 := by simp [pk5]; omega
    unfold cv
    rw [d0, d1, d2, d3, d4, d5]
    simp only [s8, if_neg (show ¬ l 0 = 0 by omega), if_neg (show ¬ l 1 = 0 by omega), if_neg (show ¬ l 2 = 0 by omega), if_neg (show ¬ l 3 = 0 by omega), if_true, pk8]
  · have h0 := hl 0 (by omega)
    have h1 := hl 1 (by omega)
    have h2 := hl 2 (by omega)
    have h3 := hl 3 (by omega)
    have h4 := hl 4 (by omega)
    have d0 : pk5 l 5 / 33554432 % 32 = l 0 := by simp [pk5]; omega
    have d1 : pk5 l 5 / 1048576 % 32 = l 1 := by simp [pk5]; omega
    have d2 : pk5 l 5 / 32768 % 32 = l 2 := by simp [pk5]; omega
    have d3 : pk5 l 5 / 1024 % 32 = l 3 := by simp [pk5]; omega
    have d4 : pk5 l 5 / 32 % 32 = l 4 := by simp [pk5]; omega
    have d5 : pk5 l 5 % 32 = 0 := by simp [pk5]; omega
    unfold cv
    rw [d0, d1, d2, d3, d4, d5]
    simp only [s8, if_neg (show ¬ l 0 = 0 by omega), if_neg (show ¬ l 1 = 0 by omega), if_neg (show ¬ l 2 = 0 by omega), if_neg (show ¬ l 3 = 0 by omega), if_neg (show ¬ l 4 = 0 by omega), if_true, pk8]
  · have h0 := hl 0 (by omega)
    have h1 := hl 1 (by omega)
    have h2 := hl 2 (by omega)
    have h3 := hl 3 (by omega)
    have h4 := hl 4 (by omega)
    have h5 := hl 5 (by omega)
    have d0 : pk5 l 6 / 33554432 % 32 = l 0 := by simp [pk5]; omega
    have d1 : pk5 l 6 / 1048576 % 32 = l 1 := by simp [pk5]; omega
    have d2 : pk5 l 6 / 32768 % 32 = l 2 := by simp [pk5]; omega
    have d3 : pk5 l 6 / 1024 % 32 = l 3 := by simp [pk5]; omega
    have d4 : pk5 l 6 / 32 % 32 = l 4 := by simp [pk5]; omega
    have d5 : pk5 l 6 % 32 = l 5 := by simp [pk5]; omega
    unfold cv
    rw [d0, d1, d2, d3, d4, d5]
    simp only [s8, if_neg (show ¬ l 0 = 0 by omega), if_neg (show ¬ l 1 = 0 by omega), if_neg (show ¬ l 2 = 0 by omega), if_neg (show ¬ l 3 = 0 by omega), if_neg (show ¬ l 4 = 0 by omega), if_neg (show ¬ l 5 = 0 by omega), if_true, pk8]
theorem vc_pk {l : Nat → Int} {m : Nat} (h1 : 1 ≤ m) (h6 : m ≤ 6) (hl : ∀ i, i < m → 1 ≤ l i ∧ l i ≤ 26) : vc (pk8 l m) = pk5 l m := by
  rcases (by omega : m = 1 ∨ m = 2 ∨ m = 3 ∨ m = 4 ∨ m = 5 ∨ m = 6) with h | h | h | h | h | h <;> subst h
  · have h0 := hl 0 (by omega)
    obtain ⟨w, hw⟩ : ∃ w, w = pk8 l 1 := ⟨_, rfl⟩
    have hw2 : w = (0 * 256 + (l 0 + 96)) := hw
    rw [← hw]
    unfold vc
    rw [if_pos (by omega)]
    simp [pk5]
    omega
  · have h0 := hl 0 (by omega)
    have h1 := hl 1 (by omega)
    obtain ⟨w, hw⟩ : ∃ w, w = pk8 l 2 := ⟨_, rfl⟩
    have hw2 : w = ((0 * 256 + (l 0 + 96)) * 256 + (l 1 + 96)) := hw
    rw [← hw]
    unfold vc
    rw [if_neg (by omega), if_pos (by omega)]
    simp [pk5]
    omega
  · have h0 := hl 0 (by omega)
    have h1 := hl 1 (by omega)
    have h2 := hl 2 (by omega)
    obtain ⟨w, hw⟩ : ∃ w, w = pk8 l 3 := ⟨_, rfl⟩
    have hw2 : w = (((0 * 256 + (l 0 + 96)) * 256 + (l 1 + 96)) * 256 + (l 2 + 96)) := hw
    rw [← hw]
    unfold vc
    rw [if_neg (by omega), if_neg (by omega), if_pos (by omega)]
    simp [pk5]
    omega
  · have h0 := hl 0 (by omega)
    have h1 := hl 1 (by omega)
    have h2 := hl 2 (by omega)
    have h3 := hl 3 (by omega)
    obtain ⟨w, hw⟩ : ∃ w, w = pk8 l 4 := ⟨_, rfl⟩
    have hw2 : w = ((((0 * 256 + (l 0 + 96)) * 256 + (l 1 + 96)) * 256 + (l 2 + 96)) * 256 + (l 3 + 96)) := hw
    rw [← hw]
    unfold vc
    rw [if_neg (by omega), if_neg (by omega), if_neg (by omega), if_pos (by omega)]
    simp [pk5]
    omega
  · have h0 := hl 0 (by omega)
    have h1 := hl 1 (by omega)
    have h2 := hl 2 (by omega)
    have h3 := hl 3 (by omega)
    have h4 := hl 4 (by omega)
    obtain ⟨w, hw⟩ : ∃ w, w = pk8 l 5 := ⟨_, rfl⟩
    have hw2 : w = (((((0 * 256 + (l 0 + 96)) * 256 + (l 1 + 96)) * 256 + (l 2 + 96)) * 256 + (l 3 + 96)) * 256 + (l 4 + 96)) := hw
    rw [← hw]
    unfold vc
    rw [if_neg (by omega), if_neg (by omega), if_neg (by omega), if_neg (by omega), if_pos (by omega)]
    simp [pk5]
    omega
  · have h0 := hl 0 (by omega)
    have h1 := hl 1 (by omega)
    have h2 := hl 2 (by omega)
    have h3 := hl 3 (by omega)
    have h4 := hl 4 (by omega)
    have h5 := hl 5 (by omega)
    obtain ⟨w, hw⟩ : ∃ w, w = pk8 l 6 := ⟨_, rfl⟩
    have hw2 : w = ((((((0 * 256 + (l 0 + 96)) * 256 + (l 1 + 96)) * 256 + (l 2 + 96)) * 256 + (l 3 + 96)) * 256 + (l 4 + 96)) * 256 + (l 5 + 96)) := hw
    rw [← hw]
    unfold vc
    rw [if_neg (by omega), if_neg (by omega), if_neg (by omega), if_neg (by omega), if_neg (by omega)]
    simp [pk5]
    omega
theorem nm_cv {p w : Int} (h : nmR p w) : w = cv p ∧ p = vc w := by
  obtain ⟨m, l, h1, h6, hl, rfl, rfl⟩ := h
  exact ⟨(cv_pk h1 h6 hl).symm, (vc_pk h1 h6 hl).symm⟩
theorem nm_eq {p w p' w' : Int} (h : nmR p w) (h' : nmR p' w') : p = p' ↔ w = w' := by
  obtain ⟨a, b⟩ := nm_cv h
  obtain ⟨a', b'⟩ := nm_cv h'
  constructor
  · intro e; rw [a, a', e]
  · intro e; rw [b, b', e]
theorem ow_all : ∀ i : Fin 25, cv (OW5.getD i.val 0) = OW8.getD i.val 0 ∧ vc (OW8.getD i.val 0) = OW5.getD i.val 0 := by decide +kernel
theorem ow_cv {i : Int} (h0 : 0 ≤ i) (h1 : i < 25) : cv (ow5 i) = ow8 i ∧ vc (ow8 i) = ow5 i := ow_all ⟨i.toNat, by omega⟩
theorem nm_ow {p w i : Int} (h : nmR p w) (h0 : 0 ≤ i) (h1 : i < 25) : ow5 i = p ↔ ow8 i = w := by
  obtain ⟨a, b⟩ := nm_cv h
  obtain ⟨a', b'⟩ := ow_cv h0 h1
  constructor
  · intro e; rw [a, ← e, a']
  · intro e; rw [b, ← e, b']
theorem ow_ij : ∀ i j : Fin 25, OW5.getD i.val 0 = OW5.getD j.val 0 → i = j := by decide +kernel
theorem ow_inj {i j : Int} (h0 : 0 ≤ i) (h1 : i < 25) (h2 : 0 ≤ j) (h3 : j < 25) (h : ow5 i = ow5 j) : i = j := by
  have := ow_ij ⟨i.toNat, by omega⟩ ⟨j.toNat, by omega⟩ h
  have := congrArg Fin.val this
  simp at this
  omega
def okT (t : Int) : Prop := t = 1 ∨ t = 2 ∨ t = 3 ∨ isS t ∨ (100 ≤ t ∧ t < 125)
def tkc (t : Int) : Int := if 100 ≤ t then 2 else t
def owc (t : Int) : Int := if 100 ≤ t then t - 100 else -1
/-- what stands at q (behind blanks): t, up to a, a number's value v, a word packed both ways -/
def TKo (c : Int → Int) (N q a t v p w : Int) : Prop :=
  (t = 1 ∧ q = N ∧ a = N) ∨
  ((∃ m : Nat, (1 ≤ m ∧ m ≤ 6) ∧ q < N ∧ rnT isL c N q m ∧ a = q + m ∧ p = pk5 (ltr c q) m ∧ w = pk8 (ltr c q) m) ∧ nmR p w ∧ ¬ sdP c q ∧ ((t = 2 ∧ ∀ i, 0 ≤ i → i < 25 → ow5 i ≠ p) ∨ (100 ≤ t ∧ t < 125 ∧ ow5 (t - 100) = p))) ∨
  (t = 3 ∧ ¬ sdP c q ∧ ∃ m : Nat, (1 ≤ m ∧ m ≤ 4) ∧ q < N ∧ rnT isD c N q m ∧ a = q + m ∧ v = nvl c q m) ∨
  (q < N ∧ t = c q ∧ a = q + 1 ∧ ¬ isL (c q) ∧ ¬ isD (c q) ∧ isS (c q))
/-- nothing that may stand there: at fault at p -/
def TKb (c : Int → Int) (N q p : Int) : Prop :=
  (sdP c q ∧ q < N ∧ (isL (c q) ∨ isD (c q)) ∧ p = q) ∨
  (¬ sdP c q ∧ q < N ∧ ∃ m : Nat, 7 ≤ m ∧ rnT isL c N q m ∧ p = q + 6) ∨
  (¬ sdP c q ∧ q < N ∧ ∃ m : Nat, 5 ≤ m ∧ rnT isD c N q m ∧ p = q + 4) ∨
  (q < N ∧ ¬ isL (c q) ∧ ¬ isD (c q) ∧ ¬ isS (c q) ∧ p = q)
theorem rn_pos {P : Int → Prop} {c : Int → Int} {N q : Int} {m : Nat} (h : rnT P c N q m) (hq : q < N) (hp : P (c q)) : 1 ≤ m := by
  rcases h with ⟨_, _, h3⟩
  by_cases g : m = 0
  · subst g
    rcases h3 with h3 | h3
    · simp at h3; omega
    · exact absurd (by simpa using hp) h3
  · omega
theorem tk_ex (c : Int → Int) {N q : Int} (h : q ≤ N) : (∃ a t v p w, TKo c N q a t v p w) ∨ ∃ p, TKb c N q p := by
  by_cases g1 : q = N
  · exact Or.inl ⟨N, 1, 0, 0, 0, Or.inl ⟨rfl, g1, rfl⟩⟩
  by_cases g2 : isL (c q)
  · by_cases g3 : sdP c q
    · exact Or.inr ⟨q, Or.inl ⟨g3, by omega, Or.inl g2, rfl⟩⟩
    obtain ⟨m, hm⟩ := rn_ex isL c h
    have m1 := rn_pos hm (by omega) g2
    by_cases g4 : m ≤ 6
    · left
      have hl : ∀ i, i < m → 1 ≤ ltr c q i ∧ ltr c q i ≤ 26 := fun i hi => by have := hm.2.1 i hi; unfold isL at this; unfold ltr; omega
      have nr : nmR (pk5 (ltr c q) m) (pk8 (ltr c q) m) := ⟨m, ltr c q, m1, g4, hl, rfl, rfl⟩
      by_cases g5 : ∃ i, 0 ≤ i ∧ i < 25 ∧ ow5 i = pk5 (ltr c q) m
      · obtain ⟨i, i1, i2, i3⟩ := g5
        exact ⟨q + m, 100 + i, 0, _, _, Or.inr (Or.inl ⟨⟨m, ⟨m1, g4⟩, by omega, hm, rfl, rfl, rfl⟩, nr, g3, Or.inr ⟨by omega, by omega, by rw [show 100 + i - 100 = i by omega]; exact i3⟩⟩)⟩
      · exact ⟨q + m, 2, 0, _, _, Or.inr (Or.inl ⟨⟨m, ⟨m1, g4⟩, by omega, hm, rfl, rfl, rfl⟩, nr, g3, Or.inl ⟨rfl, fun i w0 w1 e => g5 ⟨i, w0, w1, e⟩⟩⟩)⟩
    · exact Or.inr ⟨q + 6, Or.inr (Or.inl ⟨g3, by omega, m, by omega, hm, rfl⟩)⟩
  by_cases g6 : isD (c q)
  · by_cases g3 : sdP c q
    · exact Or.inr ⟨q, Or.inl ⟨g3, by omega, Or.inr g6, rfl⟩⟩
    obtain ⟨m, hm⟩ := rn_ex isD c h
    have m1 := rn_pos hm (by omega) g6
    by_cases g4 : m ≤ 4
    · exact Or.inl ⟨q + m, 3, nvl c q m, 0, 0, Or.inr (Or.inr (Or.inl ⟨rfl, g3, m, ⟨m1, g4⟩, by omega, hm, rfl, rfl⟩))⟩
    · exact Or.inr ⟨q + 4, Or.inr (Or.inr (Or.inl ⟨g3, by omega, m, by omega, hm, rfl⟩))⟩
  by_cases g7 : isS (c q)
  · exact Or.inl ⟨q + 1, c q, 0, 0, 0, Or.inr (Or.inr (Or.inr ⟨by omega, rfl, rfl, g2, g6, g7⟩))⟩
  · exact Or.inr ⟨q, Or.inr (Or.inr (Or.inr ⟨by omega, g2, g6, g7, rfl⟩))⟩
section TK
variable {A σ : zS} {c : Int → Int} {N k a a' t v p w fr tk ow nm nu fa pl x q se fp va wd sg sa la : Int} {m : Nat}
theorem sd_q (hq : skT c N a q) (h : a < q) : ¬ sdP c q := by
  rintro ⟨g0, g1⟩
  have := hq.2.2.1 (q - 1) (by omega) (by omega)
  unfold isB at this
  unfold isL isD at g1
  omega
theorem sd_n (hq : skT c N a q) (hk : TKo c N q a' t v p w) : ¬ sdT c N a := by
  rintro ⟨g0, g1, g2⟩
  have q1 := hq.1
  by_cases g : a = q
  · subst g
    rcases hk with ⟨k1, k2, k3⟩ | ⟨_, _, k8, _⟩ | ⟨_, k2, _⟩ | ⟨_, _, _, k4, k5, _⟩
    · omega
    · exact k8 g0
    · exact k2 g0
    · rcases g2 with g | g
      · exact k4 g
      · exact k5 g
  · have := hq.2.2.1 a (by omega) (by omega)
    unfold isB at this
    unfold isL isD at g2
    omega
theorem tok_c (hT : TX A c N) (hO : OWN A) (h : lv A a fr tk ow nm nu 0 pl) (h4 : tk ≠ 4) (htk : 0 ≤ tk ∧ tk < 256) (h0 : 0 ≤ a) (h1 : a ≤ N) (hs : (tk = 2 ∨ tk = 3) ↔ sdP c a) (hq : skT c N a q) (hk : TKo c N q a' t v p w) : ∃ B nm' nu', fX5_advance A = some B ∧ oR A B ∧ lv B a' q (tkc t) (owc t) nm' nu' 0 pl ∧ (t = 3 → nu' = v) ∧ ((t = 2 ∨ 100 ≤ t) → nm' = p) := by
  have q1 := hq.1
  obtain ⟨B, b1, b2, b3⟩ := adv_pre hT h h4 htk h0 h1 hs (sd_n hq hk) hq
  have hTB := TX_o hT b2
  have hOB : OWN B := fun i g0 g1 => by rw [b2.2.2 55 i (by omega)]; exact hO i g0 g1
  rcases hk with ⟨k1, k2, k3⟩ | ⟨⟨m, k1, k2, k3, k4, k5, k6⟩, k7, k8, k9⟩ | ⟨k1, k2, m, k3, k4, k5, k6, k7⟩ | ⟨k1, k2, k3, k4, k5, k6⟩
  · obtain ⟨C, c1, c2, c3⟩ := adT_end hTB b3 k2
    subst k1 k3
    refine ⟨C, nm, nu, b1.trans c1, oR_t b2 c2, ?_, fun g => by omega, fun g => by omega⟩
    rw [k2] at c3
    rw [k2]
    exact c3
  · obtain ⟨C, own, c1, c2, c3, c4⟩ := adT_word hTB hOB b3 (by omega) k2 k3 k1.1 k1.2
    rw [← k5] at c3 c4
    refine ⟨C, p, nu, b1.trans c1, oR_t b2 c2, ?_, fun g => by omega, fun _ => rfl⟩
    rw [k4]
    rcases k9 with ⟨k9, k10⟩ | ⟨k9, k10, k11⟩
    · have : own = -1 := by
        rcases c4 with ⟨g, _⟩ | ⟨g1, g2, g3⟩
        · exact g
        · exact absurd g3 (k10 own g1 g2)
      rw [this] at c3
      rw [k9]
      exact c3
    · have : own = t - 100 := by
        rcases c4 with ⟨_, g⟩ | ⟨g1, g2, g3⟩
        · exact absurd k11 (g _ (by omega) (by omega))
        · exact ow_inj g1 g2 (by omega) (by omega) (g3.trans k11.symm)
      rw [this] at c3
      unfold tkc owc
      rw [if_pos k9, if_pos k9]
      exact c3
  · obtain ⟨C, c1, c2, c3⟩ := adT_num hTB b3 (by omega) k4 k5 k3.1 k3.2
    subst k1
    refine ⟨C, nm, nvl c q m, b1.trans c1, oR_t b2 c2, ?_, fun g => ?_, fun g => by omega⟩
    · rw [k6]; exact c3
    · exact k7.symm
  · obtain ⟨C, c1, c2, c3⟩ := adT_sign hTB b3 (by omega) k1 k4 k5 k6
    have k6' := k6
    unfold isS at k6'
    refine ⟨C, nm, nu, b1.trans c1, oR_t b2 c2, ?_, fun g => by omega, fun g => by omega⟩
    unfold tkc owc
    rw [k2, k3, if_neg (by omega), if_neg (by omega)]
    exact c3
/-- the one side at fault: nothing more is read -/
def cBk (A : zS) (k p : Int) : Prop := hI A 54 5 = 4 ∧ hI A 54 6 = -1 ∧ hI A 54 9 = k ∧ hI A 54 10 = p ∧ k ≠ 0 ∧ 0 ≤ hI A 54 3
theorem lv_bk (h : lv A a fr 4 (-1) nm nu k p) (hk : k ≠ 0) (ha : 0 ≤ a := by omega) : cBk A k p := ⟨h.2.2.1, h.2.2.2.1, h.2.2.2.2.2.2.1, h.2.2.2.2.2.2.2, hk, by rw [h.1]; exact ha⟩
theorem tok_cb (hT : TX A c N) (hO : OWN A) (h : lv A a fr tk ow nm nu 0 pl) (h4 : tk ≠ 4) (htk : 0 ≤ tk ∧ tk < 256) (h0 : 0 ≤ a) (h1 : a ≤ N) (hs : (tk = 2 ∨ tk = 3) ↔ sdP c a) (hq : skT c N a q) (hk : TKb c N q p) : ∃ B, fX5_advance A = some B ∧ oR A B ∧ cBk B 1 p := by
  have q1 := hq.1
  by_cases hn : sdT c N a
  · obtain ⟨B, b1, b2, b3⟩ := adv_side hT h h4 htk h0 hs hn
    refine ⟨B, b1, b2, ?_⟩
    have e : q = a := by
      by_cases g : a < q
      · have := hq.2.2.1 a (by omega) g
        have h2 := hn.2.2
        unfold isB at this
        unfold isL isD at h2
        omega
      · omega
    subst e
    have : p = q := by
      rcases hk with ⟨_, _, _, g⟩ | ⟨g, _⟩ | ⟨g, _⟩ | ⟨_, g1, g2, _, g⟩
      · exact g
      · exact absurd hn.1 g
      · exact absurd hn.1 g
      · exact g
    rw [this]
    exact lv_bk b3 (by omega)
  · obtain ⟨B, b1, b2, b3⟩ := adv_pre hT h h4 htk h0 h1 hs hn hq
    have hTB := TX_o hT b2
    rcases hk with ⟨k1, k2, k3, k4⟩ | ⟨k1, k2, m, k3, k4, k5⟩ | ⟨k1, k2, m, k3, k4, k5⟩ | ⟨k1, k2, k3, k4, k5⟩
    · exfalso
      by_cases g : a < q
      · exact sd_q hq g k1
      · have e : a = q := by omega
        subst e
        exact hn ⟨k1, k2, k3⟩
    · obtain ⟨C, _, c1, c2, c3⟩ := adT_wordL hTB b3 (by omega) k2 k4 k3
      rw [k5]
      exact ⟨C, b1.trans c1, oR_t b2 c2, lv_bk c3 (by omega)⟩
    · obtain ⟨C, _, c1, c2, c3⟩ := adT_numL hTB b3 (by omega) k2 k4 k3
      rw [k5]
      exact ⟨C, b1.trans c1, oR_t b2 c2, lv_bk c3 (by omega)⟩
    · obtain ⟨C, c1, c2, c3⟩ := adT_signB hTB b3 (by omega) k1 k2 k3 k4
      rw [k5]
      exact ⟨C, b1.trans c1, oR_t b2 c2, lv_bk c3 (by omega)⟩
def tkM (σ : zS) (t v : Int) : Prop := (t = 1 → hI σ 56 3 = 0) ∧ (t = 3 → hI σ 56 3 = 2 ∧ hI σ 56 6 = v ∧ 0 ≤ v ∧ v ≤ 9999) ∧ (isS t → hI σ 56 3 = 3 ∧ hI σ 56 6 = t) ∧ (t = 2 → hI σ 56 3 = 1 ∧ (∀ i, 0 ≤ i → i < 25 → hL σ 56 7 ≠ ow8 i) ∧ hI σ 56 6 = 0) ∧ (100 ≤ t → hI σ 56 3 = 1 ∧ hL σ 56 7 = ow8 (t - 100) ∧ hI σ 56 6 = 0)
def mvT (τ : zS) (N q a fp t v w : Int) : Prop := hI τ 56 2 = N ∧ hI τ 56 4 = q ∧ hI τ 56 5 = a ∧ hI τ 56 8 = 0 ∧ hI τ 56 9 = fp ∧ hI τ 56 12 = -1 ∧ tkM τ t v ∧ ((t = 2 ∨ 100 ≤ t) → hL τ 56 7 = w)
theorem tok_m (hT : MX σ c N) (h : mv σ N sg sa a va wd 0 fp la) (h0 : 0 ≤ a) (hq : skT c N a q) (hk : TKo c N q a' t v p w) : ∃ τ, fX11_ahead σ = some τ ∧ oM σ τ ∧ mvT τ N q a' fp t v w := by
  have q1 := hq.1
  have hp := mSkip_z hT h0 hq h.2.2.2.1
  rcases hk with ⟨k1, k2, k3⟩ | ⟨⟨m, k1, k2, k3, k4, k5, k6⟩, k7, k8, k9⟩ | ⟨k1, k2, m, k3, k4, k5, k6, k7⟩ | ⟨k1, k2, k3, k4, k5, k6⟩
  · obtain ⟨τ, t1, t2, t3⟩ := a41_end hT h k2
    obtain ⟨e1, e2, e3, e4, e5, e6, e7, e8, e9⟩ := t3
    subst k1 k3
    have nS : ¬ isS 1 := by unfold isS; omega
    exact ⟨τ, hp.trans t1, t2, e1, e3, e4.trans k2, e7, e8, e9, ⟨fun _ => e2, fun g => by omega, fun g => absurd g nS, fun g => by omega, fun g => by omega⟩, fun g => by omega⟩
  · obtain ⟨τ, t1, t2, t3⟩ := a41_word (la := -1) hT h (by omega) k2 k3 k1.1 (Or.inl ⟨rfl, k8⟩)
    obtain ⟨e1, e2, e3, e4, e5, e6, e7, e8, e9⟩ := t3
    rw [if_pos rfl, if_neg (by omega)] at e9
    rw [show mn6 m = m by unfold mn6; rw [if_pos k1.2], ← k6] at e6
    have nS : ¬ isS t := by unfold isS; omega
    refine ⟨τ, hp.trans t1, t2, e1, e3, e4.trans k4.symm, e7, e8, e9, ⟨fun g => by omega, fun g => by omega, fun g => absurd g nS, fun g => ⟨e2, fun i w0 w1 e => ?_, e5⟩, fun g => ⟨e2, ?_, e5⟩⟩, fun _ => e6⟩
    · rcases k9 with ⟨_, k10⟩ | ⟨k9, k10, k11⟩
      · exact k10 i w0 w1 ((nm_ow k7 w0 w1).2 (by rw [← e, e6]))
      · omega
    · rcases k9 with ⟨_, k10⟩ | ⟨k9, k10, k11⟩
      · omega
      · rw [e6]; exact ((nm_ow k7 (by omega) (by omega)).1 k11).symm
  · obtain ⟨τ, t1, t2, t3⟩ := a41_num (la := -1) hT h (by omega) k4 k5 k3.1 (Or.inl ⟨rfl, k2⟩)
    obtain ⟨e1, e2, e3, e4, e5, e6, e7, e8, e9⟩ := t3
    rw [if_pos rfl, if_neg (by omega)] at e9
    rw [show mn4 m = m by unfold mn4; rw [if_pos k3.2], ← k7] at e5
    have vb := nvl_b (c := c) (q := q) m k3.2 (fun i hi => k5.2.1 i hi)
    rw [← k7] at vb
    subst k1
    have nS : ¬ isS 3 := by unfold isS; omega
    exact ⟨τ, hp.trans t1, t2, e1, e3, e4.trans k6.symm, e7, e8, e9, ⟨fun g => by omega, fun _ => ⟨e2, e5, vb⟩, fun g => absurd g nS, fun g => by omega, fun g => by omega⟩, fun g => by omega⟩
  · obtain ⟨τ, t1, t2, t3⟩ := a41_sign hT h (by omega) k1 k4 k5
    obtain ⟨e1, e2, e3, e4, e5, e6, e7, e8, e9⟩ := t3
    rw [← k2] at k6 e5
    have k6' := k6
    unfold isS at k6'
    exact ⟨τ, hp.trans t1, t2, e1, e3, e4.trans k3.symm, e7, e8, e9, ⟨fun g => by omega, fun g => by omega, fun _ => ⟨e2, e5⟩, fun g => by omega, fun g => by omega⟩, fun g => by omega⟩
/-- the other side is about to blame 1 at p -/
def mBd (τ : zS) (p : Int) : Prop := hI τ 56 8 = 0 ∧ hI τ 56 9 = -1 ∧ (0 ≤ p ∧ p < 1700 ∧ hI τ 56 3 ≠ 0 ∧ 0 ≤ hI τ 56 5) ∧ (hI τ 56 12 = p ∨ (hI τ 56 12 = -1 ∧ hI τ 56 3 = 3 ∧ ¬ isS (hI τ 56 6) ∧ hI τ 56 4 = p))
theorem tok_mb (hT : MX σ c N) (h : mv σ N sg sa a va wd 0 (-1) la) (h0 : 0 ≤ a) (hq : skT c N a q) (hk : TKb c N q p) : ∃ τ, fX11_ahead σ = some τ ∧ oM σ τ ∧ mBd τ p := by
  have q1 := hq.1
  have q2 := hq.2.1
  have hN := hT.2.1
  have hp := mSkip_z hT h0 hq h.2.2.2.1
  rcases hk with ⟨k1, k2, k3, k4⟩ | ⟨k1, k2, m, k3, k4, k5⟩ | ⟨k1, k2, m, k3, k4, k5⟩ | ⟨k1, k2, k3, k4, k5⟩
  · rcases k3 with k3 | k3
    · obtain ⟨m, hm⟩ := rn_ex isL c q2
      obtain ⟨τ, t1, t2, t3⟩ := a41_word (la := q) hT h (by omega) k2 hm (rn_pos hm k2 k3) (Or.inr ⟨rfl, k1⟩)
      obtain ⟨e1, e2, e3, e4, e5, e6, e7, e8, e9⟩ := t3
      rw [if_neg (by omega)] at e9
      exact ⟨τ, hp.trans t1, t2, e7, e8, by omega, Or.inl (by omega)⟩
    · obtain ⟨m, hm⟩ := rn_ex isD c q2
      obtain ⟨τ, t1, t2, t3⟩ := a41_num (la := q) hT h (by omega) k2 hm (rn_pos hm k2 k3) (Or.inr ⟨rfl, k1⟩)
      obtain ⟨e1, e2, e3, e4, e5, e6, e7, e8, e9⟩ := t3
      rw [if_neg (by omega)] at e9
      exact ⟨τ, hp.trans t1, t2, e7, e8, by omega, Or.inl (by omega)⟩
  · obtain ⟨τ, t1, t2, t3⟩ := a41_word (la := -1) hT h (by omega) k2 k4 (by omega) (Or.inl ⟨rfl, k1⟩)
    obtain ⟨e1, e2, e3, e4, e5, e6, e7, e8, e9⟩ := t3
    rw [if_pos rfl, if_pos k3] at e9
    exact ⟨τ, hp.trans t1, t2, e7, e8, by omega, Or.inl (by omega)⟩
  · obtain ⟨τ, t1, t2, t3⟩ := a41_num (la := -1) hT h (by omega) k2 k4 (by omega) (Or.inl ⟨rfl, k1⟩)
    obtain ⟨e1, e2, e3, e4, e5, e6, e7, e8, e9⟩ := t3
    rw [if_pos rfl, if_pos k3] at e9
    exact ⟨τ, hp.trans t1, t2, e7, e8, by omega, Or.inl (by omega)⟩
  · obtain ⟨τ, t1, t2, t3⟩ := a41_sign hT h (by omega) k1 k2 k3
    obtain ⟨e1, e2, e3, e4, e5, e6, e7, e8, e9⟩ := t3
    exact ⟨τ, hp.trans t1, t2, e7, e8, by omega, Or.inr ⟨e9, e2, by rw [e5]; exact k4, by omega⟩⟩
/-- both sides stand at the same word, number or sign -/
def ALc (A : zS) (c : Int → Int) (N q a t v : Int) : Prop := TX A c N ∧ OWN A ∧ hI A 54 3 = a ∧ hI A 54 4 = q ∧ hI A 54 5 = tkc t ∧ hI A 54 6 = owc t ∧ hI A 54 9 = 0 ∧ hI A 54 10 = -1 ∧ (t = 3 → hI A 54 8 = v)
def ALm (σ : zS) (c : Int → Int) (N q a t v : Int) : Prop := MX σ c N ∧ hI σ 56 4 = q ∧ hI σ 56 5 = a ∧ hI σ 56 8 = 0 ∧ hI σ 56 9 = -1 ∧ hI σ 56 12 = -1 ∧ tkM σ t v
def ALp (c : Int → Int) (N q a t : Int) : Prop := okT t ∧ 0 ≤ q ∧ q ≤ a ∧ a ≤ N ∧ N ≤ 1600 ∧ (t ≠ 1 → q < a) ∧ (t = 1 → q = N) ∧ (t ≠ 1 → ((t = 2 ∨ t = 3 ∨ 100 ≤ t) ↔ sdP c a))
def AL (A σ : zS) (c : Int → Int) (N q a t v : Int) : Prop := ALc A c N q a t v ∧ ALm σ c N q a t v ∧ ALp c N q a t ∧ ((t = 2 ∨ 100 ≤ t) → nmR (hI A 54 7) (hL σ 56 7))
theorem tk_p (hN : N ≤ 1600) (h0 : 0 ≤ q) (hk : TKo c N q a t v p w) : ALp c N q a t := by
  rcases hk with ⟨k1, k2, k3⟩ | ⟨⟨m, k1, k2, k3, k4, k5, k6⟩, k7, k8, k9⟩ | ⟨k1, k2, m, k3, k4, k5, k6, k7⟩ | ⟨k1, k2, k3, k4, k5, k6⟩
  · exact ⟨Or.inl k1, by omega, by omega, by omega, hN, by omega, fun _ => k2, fun g => absurd k1 g⟩
  · have r1 := k3.1
    have r2 := k3.2.1 (m - 1) (by omega)
    rw [show q + ((m - 1 : Nat) : Int) = a - 1 by omega] at r2
    exact ⟨by unfold okT; omega, by omega, by omega, by omega, hN, by omega, by omega, fun _ => ⟨fun _ => ⟨by omega, Or.inl r2⟩, fun _ => by omega⟩⟩
  · have r1 := k5.1
    have r2 := k5.2.1 (m - 1) (by omega)
    rw [show q + ((m - 1 : Nat) : Int) = a - 1 by omega] at r2
    exact ⟨by unfold okT; omega, by omega, by omega, by omega, hN, by omega, by omega, fun _ => ⟨fun _ => ⟨by omega, Or.inr r2⟩, fun _ => by omega⟩⟩
  · have k6' := k6
    unfold isS at k6'
    refine ⟨Or.inr (Or.inr (Or.inr (Or.inl (by rw [k2]; exact k6)))), by omega, by omega, by omega, hN, by omega, by omega, fun _ => ⟨fun _ => by omega, fun g => ?_⟩⟩
    obtain ⟨g1, g2⟩ := g
    rw [k3, show q + 1 - 1 = q by omega] at g2
    rcases g2 with g2 | g2
    · exact absurd g2 k4
    · exact absurd g2 k5
theorem tkc_b (h : okT t) : tkc t ≠ 4 ∧ 0 ≤ tkc t ∧ tkc t < 256 := by
  unfold okT isS at h
  unfold tkc
  split <;> omega
theorem tk_nm (hk : TKo c N q a t v p w) (ht : t = 2 ∨ 100 ≤ t) : nmR p w := by
  rcases hk with ⟨k1, k2, k3⟩ | ⟨⟨m, k1, k2, k3, k4, k5, k6⟩, k7, k8, k9⟩ | ⟨k1, k2, m, k3, k4, k5, k6, k7⟩ | ⟨k1, k2, k3, k4, k5, k6⟩
  · omega
  · exact k7
  · omega
  · unfold isS at k6
    omega
theorem adv_j (h : AL A σ c N q a t v) (ht : t ≠ 1) : ∃ B τ, fX5_advance A = some B ∧ oR A B ∧ fX11_ahead σ = some τ ∧ oM σ τ ∧ ((∃ q' a' t' v', AL B τ c N q' a' t' v' ∧ a ≤ q') ∨ ∃ p, cBk B 1 p ∧ mBd τ p) := by
  obtain ⟨⟨c1, c2, c3, c4, c5, c6, c7, c8, c9⟩, ⟨m1, m2, m3, m4, m5, m6, m7⟩, ⟨p1, p2, p3, p4, p5, p6, p7, p8⟩, -⟩ := h
  have tb := tkc_b p1
  have hs : (tkc t = 2 ∨ tkc t = 3) ↔ sdP c a := by
    rw [← p8 ht]
    unfold okT isS at p1
    unfold tkc
    split <;> omega
  have hlv : lv A a q (tkc t) (owc t) (hI A 54 7) (hI A 54 8) 0 (-1) := ⟨c3, c4, c5, c6, rfl, rfl, c7, c8⟩
  have hmv : mv σ N (hI σ 56 3) q a (hI σ 56 6) (hL σ 56 7) 0 (-1) (-1) := ⟨m1.1, rfl, m2, m3, rfl, rfl, m4, m5, m6⟩
  obtain ⟨q', hq⟩ := sk_ex c p4
  have q1 := hq.1
  rcases tk_ex c hq.2.1 with ⟨a', t', v', p, w, hk⟩ | ⟨p, hk⟩
  · obtain ⟨B, nm', nu', b1, b2, b3, b4, b5⟩ := tok_c c1 c2 hlv tb.1 tb.2 (by omega) p4 hs hq hk
    obtain ⟨τ, t1, t2, t3⟩ := tok_m m1 hmv (by omega) hq hk
    obtain ⟨d1, d2, d3, d4, d5, d6, d7, d8⟩ := b3
    obtain ⟨e1, e2, e3, e4, e5, e6, e7, e8⟩ := t3
    have hp := tk_p p5 (by omega) hk
    refine ⟨B, τ, b1, b2, t1, t2, Or.inl ⟨q', a', t', v', ⟨⟨TX_o c1 b2, fun i g0 g1 => by rw [b2.2.2 55 i (by omega)]; exact c2 i g0 g1, d1, d2, d3, d4, d7, d8, fun g => by rw [d6]; exact b4 g⟩, ⟨MX_o m1 t2, e2, e3, e4, e5, e6, e7⟩, hp, fun g => ?_⟩, q1⟩⟩
    rw [d5, e8 g, b5 g]
    exact tk_nm hk g
  · obtain ⟨B, b1, b2, b3⟩ := tok_cb c1 c2 hlv tb.1 tb.2 (by omega) p4 hs hq hk
    obtain ⟨τ, t1, t2, t3⟩ := tok_mb m1 hmv (by omega) hq hk
    exact ⟨B, τ, b1, b2, t1, t2, Or.inr ⟨p, b3, t3⟩⟩
end TK

/-! MY OWN: the other side's loop over a sum: its two steps, case by case -/
section TZ
variable {A σ : zS} {t v : Int}
theorem sgz59 (h : tkX σ t v) : (fX11_isSign σ (z32 59) = z32 0) = (t ≠ 59) := (sg_g h (x := z32 59) (s := 59) rfl (by unfold isS; omega))
theorem sgz40 (h : tkX σ t v) : (fX11_isSign σ (z32 40) = z32 0) = (t ≠ 40) := (sg_g h (x := z32 40) (s := 40) rfl (by unfold isS; omega))
theorem sgz41 (h : tkX σ t v) : (fX11_isSign σ (z32 41) = z32 0) = (t ≠ 41) := (sg_g h (x := z32 41) (s := 41) rfl (by unfold isS; omega))
theorem sgz91 (h : tkX σ t v) : (fX11_isSign σ (z32 91) = z32 0) = (t ≠ 91) := (sg_g h (x := z32 91) (s := 91) rfl (by unfold isS; omega))
theorem sgz93 (h : tkX σ t v) : (fX11_isSign σ (z32 93) = z32 0) = (t ≠ 93) := (sg_g h (x := z32 93) (s := 93) rfl (by unfold isS; omega))
theorem sgz44 (h : tkX σ t v) : (fX11_isSign σ (z32 44) = z32 0) = (t ≠ 44) := (sg_g h (x := z32 44) (s := 44) rfl (by unfold isS; omega))
theorem sgz43 (h : tkX σ t v) : (fX11_isSign σ (z32 43) = z32 0) = (t ≠ 43) := (sg_g h (x := z32 43) (s := 43) rfl (by unfold isS; omega))
theorem sgz45 (h : tkX σ t v) : (fX11_isSign σ (z32 45) = z32 0) = (t ≠ 45) := (sg_g h (x := z32 45) (s := 45) rfl (by unfold isS; omega))
theorem sgz42 (h : tkX σ t v) : (fX11_isSign σ (z32 42) = z32 0) = (t ≠ 42) := (sg_g h (x := z32 42) (s := 42) rfl (by unfold isS; omega))
theorem sgz47 (h : tkX σ t v) : (fX11_isSign σ (z32 47) = z32 0) = (t ≠ 47) := (sg_g h (x := z32 47) (s := 47) rfl (by unfold isS; omega))
theorem sgz37 (h : tkX σ t v) : (fX11_isSign σ (z32 37) = z32 0) = (t ≠ 37) := (sg_g h (x := z32 37) (s := 37) rfl (by unfold isS; omega))
theorem sgz60 (h : tkX σ t v) : (fX11_isSign σ (z32 60) = z32 0) = (t ≠ 60) := (sg_g h (x := z32 60) (s := 60) rfl (by unfold isS; omega))
theorem sgz62 (h : tkX σ t v) : (fX11_isSign σ (z32 62) = z32 0) = (t ≠ 62) := (sg_g h (x := z32 62) (s := 62) rfl (by unfold isS; omega))
theorem sgz61 (h : tkX σ t v) : (fX11_isSign σ (z32 61) = z32 0) = (t ≠ 61) := (sg_g h (x := z32 61) (s := 61) rfl (by unfold isS; omega))
theorem iwz0 (h : tkX σ t v) : (fX11_isWord σ 128047712724332 = z32 0) = (t ≠ 100) := iw0 h
theorem iwz1 (h : tkX σ t v) : (fX11_isWord σ 6775152 = z32 0) = (t ≠ 101) := iw1 h
theorem iwz2 (h : tkX σ t v) : (fX11_isWord σ 24948 = z32 0) = (t ≠ 102) := iw2 h
theorem iwz3 (h : tkX σ t v) : (fX11_isWord σ 131277443786867 = z32 0) = (t ≠ 103) := iw3 h
theorem iwz4 (h : tkX σ t v) : (fX11_isWord σ 114827769177458 = z32 0) = (t ≠ 104) := iw4 h
theorem iwz5 (h : tkX σ t v) : (fX11_isWord σ 108243466679400 = z32 0) = (t ≠ 105) := iw5 h
theorem iwz6 (h : tkX σ t v) : (fX11_isWord σ 119165837338739 = z32 0) = (t ≠ 106) := iw6 h
theorem iwz7 (h : tkX σ t v) : (fX11_isWord σ 127991794264947 = z32 0) = (t ≠ 107) := iw7 h
theorem iwz8 (h : tkX σ t v) : (fX11_isWord σ 444150998387 = z32 0) = (t ≠ 108) := iw8 h
theorem iwz9 (h : tkX σ t v) : (fX11_isWord σ 512970880104 = z32 0) = (t ≠ 109) := iw9 h
theorem iwz10 (h : tkX σ t v) : (fX11_isWord σ 499985311091 = z32 0) = (t ≠ 110) := iw10 h
theorem iwz11 (h : tkX σ t v) : (fX11_isWord σ 1936024942 = z32 0) = (t ≠ 111) := iw11 h
theorem iwz12 (h : tkX σ t v) : (fX11_isWord σ 1718185573 = z32 0) = (t ≠ 112) := iw12 h
theorem iwz13 (h : tkX σ t v) : (fX11_isWord σ 1751477348 = z32 0) = (t ≠ 113) := iw13 h
theorem iwz14 (h : tkX σ t v) : (fX11_isWord σ 1819242087 = z32 0) = (t ≠ 114) := iw14 h
theorem iwz15 (h : tkX σ t v) : (fX11_isWord σ 1835099237 = z32 0) = (t ≠ 115) := iw15 h
theorem iwz16 (h : tkX σ t v) : (fX11_isWord σ 1818325876 = z32 0) = (t ≠ 116) := iw16 h
theorem iwz17 (h : tkX σ t v) : (fX11_isWord σ 108187566237038 = z32 0) = (t ≠ 117) := iw17 h
theorem iwz18 (h : tkX σ t v) : (fX11_isWord σ 26982 = z32 0) = (t ≠ 118) := iw18 h
theorem iwz19 (h : tkX σ t v) : (fX11_isWord σ 28530 = z32 0) = (t ≠ 119) := iw19 h
theorem iwz20 (h : tkX σ t v) : (fX11_isWord σ 6385252 = z32 0) = (t ≠ 120) := iw20 h
theorem iwz21 (h : tkX σ t v) : (fX11_isWord σ 7237492 = z32 0) = (t ≠ 121) := iw21 h
theorem iwz22 (h : tkX σ t v) : (fX11_isWord σ 6384748 = z32 0) = (t ≠ 122) := iw22 h
theorem iwz23 (h : tkX σ t v) : (fX11_isWord σ 7170414 = z32 0) = (t ≠ 123) := iw23 h
theorem iwz24 (h : tkX σ t v) : (fX11_isWord σ 7168376 = z32 0) = (t ≠ 124) := iw24 h
theorem caz59 (h : tkA A t) : (z32 (hI A 54 5) = z32 59) = (t = 59) := by
  rw [← ca_g h (x := z32 59) (s := 59) rfl (by unfold isS; omega)]; exact congrArg (· = z32 59) (iG_h A 54 5).symm
theorem caz40 (h : tkA A t) : (z32 (hI A 54 5) = z32 40) = (t = 40) := by
  rw [← ca_g h (x := z32 40) (s := 40) rfl (by unfold isS; omega)]; exact congrArg (· = z32 40) (iG_h A 54 5).symm
theorem caz41 (h : tkA A t) : (z32 (hI A 54 5) = z32 41) = (t = 41) := by
  rw [← ca_g h (x := z32 41) (s := 41) rfl (by unfold isS; omega)]; exact congrArg (· = z32 41) (iG_h A 54 5).symm
theorem caz91 (h : tkA A t) : (z32 (hI A 54 5) = z32 91) = (t = 91) := by
  rw [← ca_g h (x := z32 91) (s := 91) rfl (by unfold isS; omega)]; exact congrArg (· = z32 91) (iG_h A 54 5).symm
theorem caz93 (h : tkA A t) : (z32 (hI A 54 5) = z32 93) = (t = 93) := by
  rw [← ca_g h (x := z32 93) (s := 93) rfl (by unfold isS; omega)]; exact congrArg (· = z32 93) (iG_h A 54 5).symm
theorem caz44 (h : tkA A t) : (z32 (hI A 54 5) = z32 44) = (t = 44) := by
  rw [← ca_g h (x := z32 44) (s := 44) rfl (by unfold isS; omega)]; exact congrArg (· = z32 44) (iG_h A 54 5).symm
theorem caz43 (h : tkA A t) : (z32 (hI A 54 5) = z32 43) = (t = 43) := by
  rw [← ca_g h (x := z32 43) (s := 43) rfl (by unfold isS; omega)]; exact congrArg (· = z32 43) (iG_h A 54 5).symm
theorem caz45 (h : tkA A t) : (z32 (hI A 54 5) = z32 45) = (t = 45) := by
  rw [← ca_g h (x := z32 45) (s := 45) rfl (by unfold isS; omega)]; exact congrArg (· = z32 45) (iG_h A 54 5).symm
theorem caz42 (h : tkA A t) : (z32 (hI A 54 5) = z32 42) = (t = 42) := by
  rw [← ca_g h (x := z32 42) (s := 42) rfl (by unfold isS; omega)]; exact congrArg (· = z32 42) (iG_h A 54 5).symm
theorem caz47 (h : tkA A t) : (z32 (hI A 54 5) = z32 47) = (t = 47) := by
  rw [← ca_g h (x := z32 47) (s := 47) rfl (by unfold isS; omega)]; exact congrArg (· = z32 47) (iG_h A 54 5).symm
theorem caz37 (h : tkA A t) : (z32 (hI A 54 5) = z32 37) = (t = 37) := by
  rw [← ca_g h (x := z32 37) (s := 37) rfl (by unfold isS; omega)]; exact congrArg (· = z32 37) (iG_h A 54 5).symm
theorem caz60 (h : tkA A t) : (z32 (hI A 54 5) = z32 60) = (t = 60) := by
  rw [← ca_g h (x := z32 60) (s := 60) rfl (by unfold isS; omega)]; exact congrArg (· = z32 60) (iG_h A 54 5).symm
theorem caz62 (h : tkA A t) : (z32 (hI A 54 5) = z32 62) = (t = 62) := by
  rw [← ca_g h (x := z32 62) (s := 62) rfl (by unfold isS; omega)]; exact congrArg (· = z32 62) (iG_h A 54 5).symm
theorem caz61 (h : tkA A t) : (z32 (hI A 54 5) = z32 61) = (t = 61) := by
  rw [← ca_g h (x := z32 61) (s := 61) rfl (by unfold isS; omega)]; exact congrArg (· = z32 61) (iG_h A 54 5).symm
theorem caz3 (h : tkA A t) : (z32 (hI A 54 5) = z32 3) = (t = 3) := by
  rw [← ca_g h (x := z32 3) (s := 3) rfl (by unfold isS; omega)]; exact congrArg (· = z32 3) (iG_h A 54 5).symm
theorem caz1 (h : tkA A t) : (z32 (hI A 54 5) = z32 1) = (t = 1) := by
  rw [← ca_g h (x := z32 1) (s := 1) rfl (by unfold isS; omega)]; exact congrArg (· = z32 1) (iG_h A 54 5).symm
theorem cbz0 (h : tkA A t) : (z32 (hI A 54 6) = z32 0) = (t = 100) := by
  have e : (iG A 54 6 = z32 0) = (t = 100 + 0) := cb_g h (x := z32 0) (i := 0) rfl (by omega) (by omega)
  exact (congrArg (· = z32 0) (iG_h A 54 6).symm).trans e
theorem cbz1 (h : tkA A t) : (z32 (hI A 54 6) = z32 1) = (t = 101) := by
  have e : (iG A 54 6 = z32 1) = (t = 100 + 1) := cb_g h (x := z32 1) (i := 1) rfl (by omega) (by omega)
  exact (congrArg (· = z32 1) (iG_h A 54 6).symm).trans e
theorem cbz2 (h : tkA A t) : (z32 (hI A 54 6) = z32 2) = (t = 102) := by
  have e : (iG A 54 6 = z32 2) = (t = 100 + 2) := cb_g h (x := z32 2) (i := 2) rfl (by omega) (by omega)
  exact (congrArg (· = z32 2) (iG_h A 54 6).symm).trans e
theorem cbz3 (h : tkA A t) : (z32 (hI A 54 6) = z32 3) = (t = 103) := by
  have e : (iG A 54 6 = z32 3) = (t = 100 + 3) := cb_g h (x := z32 3) (i := 3) rfl (by omega) (by omega)
  exact (congrArg (· = z32 3) (iG_h A 54 6).symm).trans e
theorem cbz4 (h : tkA A t) : (z32 (hI A 54 6) = z32 4) = (t = 104) := by
  have e : (iG A 54 6 = z32 4) = (t = 100 + 4) := cb_g h (x := z32 4) (i := 4) rfl (by omega) (by omega)
  exact (congrArg (· = z32 4) (iG_h A 54 6).symm).trans e
theorem cbz5 (h : tkA A t) : (z32 (hI A 54 6) = z32 5) = (t = 105) := by
  have e : (iG A 54 6 = z32 5) = (t = 100 + 5) := cb_g h (x := z32 5) (i := 5) rfl (by omega) (by omega)
  exact (congrArg (· = z32 5) (iG_h A 54 6).symm).trans e
theorem cbz6 (h : tkA A t) : (z32 (hI A 54 6) = z32 6) = (t = 106) := by
  have e : (iG A 54 6 = z32 6) = (t = 100 + 6) := cb_g h (x := z32 6) (i := 6) rfl (by omega) (by omega)
  exact (congrArg (· = z32 6) (iG_h A 54 6).symm).trans e
theorem cbz7 (h : tkA A t) : (z32 (hI A 54 6) = z32 7) = (t = 107) := by
  have e : (iG A 54 6 = z32 7) = (t = 100 + 7) := cb_g h (x := z32 7) (i := 7) rfl (by omega) (by omega)
  exact (congrArg (· = z32 7) (iG_h A 54 6).symm).trans e
theorem cbz8 (h : tkA A t) : (z32 (hI A 54 6) = z32 8) = (t = 108) := by
  have e : (iG A 54 6 = z32 8) = (t = 100 + 8) := cb_g h (x := z32 8) (i := 8) rfl (by omega) (by omega)
  exact (congrArg (· = z32 8) (iG_h A 54 6).symm).trans e
theorem cbz9 (h : tkA A t) : (z32 (hI A 54 6) = z32 9) = (t = 109) := by
  have e : (iG A 54 6 = z32 9) = (t = 100 + 9) := cb_g h (x := z32 9) (i := 9) rfl (by omega) (by omega)
  exact (congrArg (· = z32 9) (iG_h A 54 6).symm).trans e
theorem cbz10 (h : tkA A t) : (z32 (hI A 54 6) = z32 10) = (t = 110) := by
  have e : (iG A 54 6 = z32 10) = (t = 100 + 10) := cb_g h (x := z32 10) (i := 10) rfl (by omega) (by omega)
  exact (congrArg (· = z32 10) (iG_h A 54 6).symm).trans e
theorem cbz11 (h : tkA A t) : (z32 (hI A 54 6) = z32 11) = (t = 111) := by
  have e : (iG A 54 6 = z32 11) = (t = 100 + 11) := cb_g h (x := z32 11) (i := 11) rfl (by omega) (by omega)
  exact (congrArg (· = z32 11) (iG_h A 54 6).symm).trans e
theorem cbz12 (h : tkA A t) : (z32 (hI A 54 6) = z32 12) = (t = 112) := by
  have e : (iG A 54 6 = z32 12) = (t = 100 + 12) := cb_g h (x := z32 12) (i := 12) rfl (by omega) (by omega)
  exact (congrArg (· = z32 12) (iG_h A 54 6).symm).trans e
theorem cbz13 (h : tkA A t) : (z32 (hI A 54 6) = z32 13) = (t = 113) := by
  have e : (iG A 54 6 = z32 13) = (t = 100 + 13) := cb_g h (x := z32 13) (i := 13) rfl (by omega) (by omega)
  exact (congrArg (· = z32 13) (iG_h A 54 6).symm).trans e
theorem cbz14 (h : tkA A t) : (z32 (hI A 54 6) = z32 14) = (t = 114) := by
  have e : (iG A 54 6 = z32 14) = (t = 100 + 14) := cb_g h (x := z32 14) (i := 14) rfl (by omega) (by omega)
  exact (congrArg (· = z32 14) (iG_h A 54 6).symm).trans e
theorem cbz15 (h : tkA A t) : (z32 (hI A 54 6) = z32 15) = (t = 115) := by
  have e : (iG A 54 6 = z32 15) = (t = 100 + 15) := cb_g h (x := z32 15) (i := 15) rfl (by omega) (by omega)
  exact (congrArg (· = z32 15) (iG_h A 54 6).symm).trans e
theorem cbz16 (h : tkA A t) : (z32 (hI A 54 6) = z32 16) = (t = 116) := by
  have e : (iG A 54 6 = z32 16) = (t = 100 + 16) := cb_g h (x := z32 16) (i := 16) rfl (by omega) (by omega)
  exact (congrArg (· = z32 16) (iG_h A 54 6).symm).trans e
theorem cbz17 (h : tkA A t) : (z32 (hI A 54 6) = z32 17) = (t = 117) := by
  have e : (iG A 54 6 = z32 17) = (t = 100 + 17) := cb_g h (x := z32 17) (i := 17) rfl (by omega) (by omega)
  exact (congrArg (· = z32 17) (iG_h A 54 6).symm).trans e
theorem cbz18 (h : tkA A t) : (z32 (hI A 54 6) = z32 18) = (t = 118) := by
  have e : (iG A 54 6 = z32 18) = (t = 100 + 18) := cb_g h (x := z32 18) (i := 18) rfl (by omega) (by omega)
  exact (congrArg (· = z32 18) (iG_h A 54 6).symm).trans e
theorem cbz19 (h : tkA A t) : (z32 (hI A 54 6) = z32 19) = (t = 119) := by
  have e : (iG A 54 6 = z32 19) = (t = 100 + 19) := cb_g h (x := z32 19) (i := 19) rfl (by omega) (by omega)
  exact (congrArg (· = z32 19) (iG_h A 54 6).symm).trans e
theorem cbz20 (h : tkA A t) : (z32 (hI A 54 6) = z32 20) = (t = 120) := by
  have e : (iG A 54 6 = z32 20) = (t = 100 + 20) := cb_g h (x := z32 20) (i := 20) rfl (by omega) (by omega)
  exact (congrArg (· = z32 20) (iG_h A 54 6).symm).trans e
theorem cbz21 (h : tkA A t) : (z32 (hI A 54 6) = z32 21) = (t = 121) := by
  have e : (iG A 54 6 = z32 21) = (t = 100 + 21) := cb_g h (x := z32 21) (i := 21) rfl (by omega) (by omega)
  exact (congrArg (· = z32 21) (iG_h A 54 6).symm).trans e
theorem cbz22 (h : tkA A t) : (z32 (hI A 54 6) = z32 22) = (t = 122) := by
  have e : (iG A 54 6 = z32 22) = (t = 100 + 22) := cb_g h (x := z32 22) (i := 22) rfl (by omega) (by omega)
  exact (congrArg (· = z32 22) (iG_h A 54 6).symm).trans e
theorem cbz23 (h : tkA A t) : (z32 (hI A 54 6) = z32 23) = (t = 123) := by
  have e : (iG A 54 6 = z32 23) = (t = 100 + 23) := cb_g h (x := z32 23) (i := 23) rfl (by omega) (by omega)
  exact (congrArg (· = z32 23) (iG_h A 54 6).symm).trans e
theorem cbz24 (h : tkA A t) : (z32 (hI A 54 6) = z32 24) = (t = 124) := by
  have e : (iG A 54 6 = z32 24) = (t = 100 + 24) := cb_g h (x := z32 24) (i := 24) rfl (by omega) (by omega)
  exact (congrArg (· = z32 24) (iG_h A 54 6).symm).trans e
theorem mkz0 (h : tkX σ t v) : (z32 (hI σ 56 3) = z32 0) = (t = 1) := by
  rw [← mk_0 h]; exact congrArg (· = z32 0) (iG_h σ 56 3).symm
theorem mkz1 (h : tkX σ t v) : (z32 (hI σ 56 3) = z32 1) = (t = 2 ∨ 100 ≤ t) := by
  rw [← mk_1 h]; exact congrArg (· = z32 1) (iG_h σ 56 3).symm
theorem mkz2 (h : tkX σ t v) : (z32 (hI σ 56 3) = z32 2) = (t = 3) := by
  rw [← mk_2 h]; exact congrArg (· = z32 2) (iG_h σ 56 3).symm
theorem cwz2 (h : tkA A t) : (z32 (hI A 54 5) = z32 2) = (t = 2 ∨ 100 ≤ t) := by
  rw [← cw_2 h]; exact congrArg (· = z32 2) (iG_h A 54 5).symm
theorem cwzn (h : tkA A t) : (z32 (hI A 54 6) = z32 (-1)) = (t < 100) := by
  rw [← cw_n h]; exact congrArg (· = z32 (-1)) (iG_h A 54 6).symm
end TZ
def stp (σ : zS) (k : Nat) (τ : zS) : Prop := ∀ fu : Nat, fX11_reads_43 (fu + k) (z32 1) σ = fX11_reads_43 fu (z32 1) τ
def endd (σ : zS) (K : Nat) (τ : zS) : Prop := ∀ fu : Nat, fX11_reads_43 (fu + K) (z32 1) σ = some τ
section ST
variable {σ τ υ : zS} {b e om dp ba o od t v q a x k p kd ph bg m ls : Int} {c : Int → Int} {N : Int}
theorem stp_t {i j : Nat} (h1 : stp σ i τ) (h2 : stp τ j υ) : stp σ (j + i) υ := fun fu => by rw [← Nat.add_assoc, h1, h2]
theorem stp_e {i j : Nat} (h1 : stp σ i τ) (h2 : endd τ j υ) : endd σ (j + i) υ := fun fu => by rw [← Nat.add_assoc, h1, h2]
theorem stp_o (h : hI σ 56 45 = 0) (ho : fX11_operand σ = some (z32 x, τ)) (hx : x = 0 ∨ x = 1) (h8 : hI τ 56 8 = 0) : stp σ 1 (jS τ 56 45 x) := by
  intro fu
  rcases hx with hx | hx <;> subst hx <;> simp (disch := omega) only [fX11_reads_43, fX11_reads_70, fX11_reads_86, z32_add, z32_sub, z32_mul, z32_neg, z32_litn, z32_lt, z32_le, z32_eq, iG_h, lG_h, iS_q, lS_q, aI_h, wI_h, aL_h, wL_h, ↓bnd_q, bnr_q, bnc_q, ↓reduceIte, ieqT, ieqF, iltT, iltF, ileT, ileF, not_true, not_false_iff, h, ho, gdT, true_or, or_true, hI_jS, h8]
theorem stp_g (h : hI σ 56 45 = 1) (ho : fX11_goesOn σ = some (z32 1, τ)) (h8 : hI τ 56 8 = 0) : stp σ 1 τ := by
  intro fu
  simp (disch := omega) only [fX11_reads_43, fX11_reads_70, fX11_reads_86, z32_add, z32_sub, z32_mul, z32_neg, z32_litn, z32_lt, z32_le, z32_eq, iG_h, lG_h, iS_q, lS_q, aI_h, wI_h, aL_h, wL_h, ↓bnd_q, bnr_q, bnc_q, ↓reduceIte, ieqT, ieqF, iltT, iltF, ileT, ileF, not_true, not_false_iff, h, ho, h8]
theorem end_o (h : hI σ 56 45 = 0) (ho : fX11_operand σ = some (z32 x, τ)) (hx : x = 0 ∨ x = 1) (h8 : 0 < hI τ 56 8) : endd σ 2 (jS τ 56 45 x) := by
  intro fu
  have l := hI_hi τ 56 8
  rcases hx with hx | hx <;> subst hx <;> simp (disch := omega) only [fX11_reads_43, fX11_reads_70, fX11_reads_86, fX11_reads_85, z32_add, z32_sub, z32_mul, z32_neg, z32_litn, z32_lt, z32_le, z32_eq, iG_h, lG_h, iS_q, lS_q, aI_h, wI_h, aL_h, wL_h, ↓bnd_q, bnr_q, bnc_q, ↓reduceIte, ieqT, ieqF, iltT, iltF, ileT, ileF, not_true, not_false_iff, h, ho, gdT, true_or, or_true, hI_jS]
theorem end_g (h : hI σ 56 45 = 1) (ho : fX11_goesOn σ = some (z32 0, τ)) : endd σ 2 τ := by
  intro fu
  simp (disch := omega) only [fX11_reads_43, fX11_reads_70, fX11_reads_86, fX11_reads_85, z32_add, z32_sub, z32_mul, z32_neg, z32_litn, z32_lt, z32_le, z32_eq, iG_h, lG_h, iS_q, lS_q, aI_h, wI_h, aL_h, wL_h, ↓bnd_q, bnr_q, bnc_q, ↓reduceIte, ieqT, ieqF, iltT, iltF, ileT, ileF, not_true, not_false_iff, h, ho]
def isTst (kd : Int) : Prop := kd = 1 ∨ kd = 5 ∨ kd = 6
theorem tst_t (h : isTst kd) : fX11_isTest (z32 kd) = z32 1 := by
  unfold isTst at h
  rcases h with h | h | h <;> subst h <;> decide
theorem tst_f (h : ¬ isTst kd) (h0 : 0 ≤ kd) (h1 : kd ≤ 6) : fX11_isTest (z32 kd) = z32 0 := by
  unfold isTst at h
  rcases (by omega : kd = 0 ∨ kd = 2 ∨ kd = 3 ∨ kd = 4) with h | h | h | h <;> subst h <;> decide
/-- what both steps read: the open frame, the numbers -/
def NM (σ : zS) (b e om dp ba o kd ph bg : Int) : Prop := (hI σ 56 34 = e ∧ 0 ≤ e) ∧ (hI σ 56 44 = om ∧ 0 ≤ om ∧ om ≤ 60) ∧ e + om ≤ 1600 ∧ (hI σ 56 41 = dp ∧ 1 ≤ dp ∧ dp ≤ 8) ∧ (hI σ 56 35 = b ∧ 0 ≤ b ∧ b ≤ 1) ∧ (hI σ 82 (dp - 1) = ba ∧ 0 ≤ ba ∧ ba ≤ om) ∧ (hI σ 56 42 = o ∧ 0 ≤ o ∧ o ≤ 7) ∧ (hI σ 78 (dp - 1) = kd ∧ 0 ≤ kd ∧ kd ≤ 6) ∧ (hI σ 79 (dp - 1) = ph ∧ 0 ≤ ph ∧ ph ≤ 2) ∧ (hI σ 80 (dp - 1) = bg ∧ 0 ≤ bg ∧ bg ≤ 1)
/-- no fault yet, the word, number or sign t at q -/
def RD (σ : zS) (q t v : Int) : Prop := hI σ 56 8 = 0 ∧ hI σ 56 12 = -1 ∧ hI σ 56 4 = q ∧ tkX σ t v
theorem RD_c (h : RD σ q t v) (e8 : hI τ 56 8 = hI σ 56 8) (e12 : hI τ 56 12 = hI σ 56 12) (e4 : hI τ 56 4 = hI σ 56 4) (e3 : hI τ 56 3 = hI σ 56 3) (e6 : hI τ 56 6 = hI σ 56 6) (e7 : hL τ 56 7 = hL σ 56 7) : RD τ q t v := ⟨e8.trans h.1, e12.trans h.2.1, e4.trans h.2.2.1, tkX_c h.2.2.2 e3 e6 e7⟩
theorem fk8 (h0 : 0 ≤ k) (h1 : k ≤ 10) : hI (jS (jS σ 56 8 k) 56 9 p) 56 8 = k := by
  rw [hI_j0 (by omega) (by omega) (by omega), hI_jS (by omega) (by omega) (by omega) (by omega), if_pos rfl]
theorem fk9 (h0 : -1 ≤ p) (h1 : p ≤ 2000) : hI (jS (jS σ 56 8 k) 56 9 p) 56 9 = p := by
  rw [hI_jS (by omega) (by omega) (by omega) (by omega), if_pos rfl]
theorem op_46 (hn : NM σ b e om dp ba o kd ph bg) (hr : RD σ q t v) : ∃ fs, (fs = 0 ∨ fs = 1) ∧ (fs = 1 ↔ (isTst kd ∧ bg ≠ 0)) ∧ fX11_operand σ = fX11_operand_46 (z32 (dp - 1)) (z32 fs) σ := by
  obtain ⟨n1, n2, n3, n4, n5, n6, n7, n8, n9, n10⟩ := hn
  obtain ⟨r1, r2, r3, r4⟩ := hr
  by_cases h1 : isTst kd
  · by_cases h2 : bg = 0
    · refine ⟨0, Or.inl rfl, ⟨fun h => by omega, fun h => absurd h2 h.2⟩, ?_⟩
      simp (disch := omega) only [fX11_operand, fX11_operand_45, z32_add, z32_sub, z32_mul, z32_neg, z32_litn, z32_lt, z32_le, z32_eq, iG_h, lG_h, iS_q, lS_q, aI_h, wI_h, aL_h, wL_h, ↓bnd_q, bnr_q, bnc_q, ↓reduceIte, ieqT, ieqF, iltT, iltF, ileT, ileF, not_true, not_false_iff, lex_n r2, r1, n4.1, n8.1, n10.1, tst_t h1, h2]
    · refine ⟨1, Or.inr rfl, ⟨fun _ => ⟨h1, h2⟩, fun _ => rfl⟩, ?_⟩
      simp (disch := omega) only [fX11_operand, fX11_operand_45, z32_add, z32_sub, z32_mul, z32_neg, z32_litn, z32_lt, z32_le, z32_eq, iG_h, lG_h, iS_q, lS_q, aI_h, wI_h, aL_h, wL_h, ↓bnd_q, bnr_q, bnc_q, ↓reduceIte, ieqT, ieqF, iltT, iltF, ileT, ileF, not_true, not_false_iff, lex_n r2, r1, n4.1, n8.1, n10.1, tst_t h1]
  · refine ⟨0, Or.inl rfl, ⟨fun h => by omega, fun h => absurd h.1 h1⟩, ?_⟩
    simp (disch := omega) only [fX11_operand, fX11_operand_45, z32_add, z32_sub, z32_mul, z32_neg, z32_litn, z32_lt, z32_le, z32_eq, iG_h, lG_h, iS_q, lS_q, aI_h, wI_h, aL_h, wL_h, ↓bnd_q, bnr_q, bnc_q, ↓reduceIte, ieqT, ieqF, iltT, iltF, ileT, ileF, not_true, not_false_iff, lex_n r2, r1, n4.1, n8.1, tst_f h1 n8.2.1 n8.2.2]
def fsZ (kd bg : Int) : Prop := ¬ (isTst kd ∧ bg ≠ 0)
theorem op_171 (hn : NM σ b e om dp ba o kd ph bg) (hr : RD σ q t v) (hc : fsZ kd bg ∨ (t ≠ 121 ∧ t ≠ 91 ∧ t ≠ 122)) : fX11_operand σ = fX11_operand_171 (jS σ 80 (dp - 1) 0) ∧ RD (jS σ 80 (dp - 1) 0) q t v := by
  have hr2 : RD (jS σ 80 (dp - 1) 0) q t v := RD_c hr (hI_jS_ne (by omega)) (hI_jS_ne (by omega)) (hI_jS_ne (by omega)) (hI_jS_ne (by omega)) (hI_jS_ne (by omega)) rfl
  refine ⟨?_, hr2⟩
  obtain ⟨fs, f1, f2, f3⟩ := op_46 hn hr
  rw [f3]
  obtain ⟨n1, n2, n3, n4, n5, n6, n7, n8, n9, n10⟩ := hn
  have hx := hr.2.2.2
  have hx2 := hr2.2.2.2
  rcases f1 with f1 | f1
  · subst f1
    simp (disch := omega) only [fX11_operand_46, fX11_operand_110, fX11_operand_137, nar0, z32_add, z32_sub, z32_mul, z32_neg, z32_litn, z32_lt, z32_le, z32_eq, iG_h, lG_h, iS_q, lS_q, aI_h, wI_h, aL_h, wL_h, ↓bnd_q, bnr_q, bnc_q, ↓reduceIte, ieqT, ieqF, iltT, iltF, ileT, ileF, not_true, not_false_iff]
  · have hc2 : t ≠ 121 ∧ t ≠ 91 ∧ t ≠ 122 := by
      rcases hc with h | h
      · exact absurd (f2.1 f1) h
      · exact h
    subst f1
    simp (disch := omega) only [fX11_operand_46, fX11_operand_110, fX11_operand_137, nar0, z32_add, z32_sub, z32_mul, z32_neg, z32_litn, z32_lt, z32_le, z32_eq, iG_h, lG_h, iS_q, lS_q, aI_h, wI_h, aL_h, wL_h, ↓bnd_q, bnr_q, bnc_q, ↓reduceIte, ieqT, ieqF, iltT, iltF, ileT, ileF, not_true, not_false_iff, iwz21 hx, sgz91 hx2, iwz22 hx2, ne_eq, not_false_iff]
theorem op_not (hn : NM σ b e om dp ba o kd ph bg) (hr : RD σ q t v) (hc : ¬ fsZ kd bg) (ht : t = 121) (ho : o < 7) : fX11_operand σ = bnr (fX11_ahead (jS (jS (jS σ 56 42 (o + 1)) 83 om 22) 56 44 (om + 1))) fun υ => some (z32 0, υ) := by
  obtain ⟨fs, f1, f2, f3⟩ := op_46 hn hr
  have f4 : fs = 1 := f2.2 (Classical.not_not.1 hc)
  subst f4
  rw [f3]
  obtain ⟨n1, n2, n3, n4, n5, n6, n7, n8, n9, n10⟩ := hn
  have hx := hr.2.2.2
  have mh := mhb_z (σ := jS σ 56 42 (o + 1)) (om := om) (x := 22) (by rw [hI_j0 (by omega) (by omega) (by omega)]; exact n2.1) n2.2.1 (by omega)
  simp (disch := omega) only [fX11_operand_46, fX11_operand_79, z32_add, z32_sub, z32_mul, z32_neg, z32_litn, z32_lt, z32_le, z32_eq, iG_h, lG_h, iS_q, lS_q, aI_h, wI_h, aL_h, wL_h, ↓bnd_q, bnr_q, bnc_q, ↓reduceIte, ieqT, ieqF, iltT, iltF, ileT, ileF, not_true, not_false_iff, iwz21 hx, ne_eq, not_false_iff, n7.1, hr.1, mh, ht]
theorem op_not7 (hn : NM σ b e om dp ba o kd ph bg) (hr : RD σ q t v) (hc : ¬ fsZ kd bg) (ht : t = 121) (ho : o = 7) : fX11_operand σ = some (z32 1, jS (jS σ 56 8 5) 56 9 q) := by
  obtain ⟨fs, f1, f2, f3⟩ := op_46 hn hr
  have f4 : fs = 1 := f2.2 (Classical.not_not.1 hc)
  subst f4
  rw [f3]
  obtain ⟨n1, n2, n3, n4, n5, n6, n7, n8, n9, n10⟩ := hn
  have hx := hr.2.2.2
  simp (disch := omega) only [fX11_operand_46, fX11_operand_79, z32_add, z32_sub, z32_mul, z32_neg, z32_litn, z32_lt, z32_le, z32_eq, iG_h, lG_h, iS_q, lS_q, aI_h, wI_h, aL_h, wL_h, ↓bnd_q, bnr_q, bnc_q, ↓reduceIte, ieqT, ieqF, iltT, iltF, ileT, ileF, not_true, not_false_iff, iwz21 hx, ne_eq, not_false_iff, n7.1, ho, hr.2.2.1, blm_0 hr.1, ht, fk8]
theorem opn_z {s : Int} (h42 : hI σ 56 42 = o) (h8 : hI σ 56 8 = 0) (h0 : 0 ≤ o) (ho : o < 7) : fX11_opens (z32 s) σ = bnr (fX11_ahead (jS σ 56 42 (o + 1))) fun υ => bnr (fX11_pushes (z32 s) υ) fun υ2 => some υ2 := by
  simp (disch := omega) only [fX11_opens, fX11_opens_18, z32_add, z32_sub, z32_mul, z32_neg, z32_litn, z32_lt, z32_le, z32_eq, iG_h, lG_h, iS_q, lS_q, aI_h, wI_h, aL_h, wL_h, ↓bnd_q, bnr_q, bnc_q, ↓reduceIte, ieqT, ieqF, iltT, iltF, ileT, ileF, not_true, not_false_iff, h42, h8]
theorem opn_7 {s : Int} (h42 : hI σ 56 42 = 7) (h8 : hI σ 56 8 = 0) (h4 : hI σ 56 4 = q) : fX11_opens (z32 s) σ = some (jS (jS σ 56 8 5) 56 9 q) := by
  simp (disch := omega) only [fX11_opens, fX11_opens_18, z32_add, z32_sub, z32_mul, z32_neg, z32_litn, z32_lt, z32_le, z32_eq, iG_h, lG_h, iS_q, lS_q, aI_h, wI_h, aL_h, wL_h, ↓bnd_q, bnr_q, bnc_q, ↓reduceIte, ieqT, ieqF, iltT, iltF, ileT, ileF, not_true, not_false_iff, h42, h4, blm_0 h8, fk8]
theorem op_br (hn : NM σ b e om dp ba o kd ph bg) (hr : RD σ q t v) (hc : ¬ fsZ kd bg) (ht : t = 91) : fX11_operand σ = bnr (fX11_opens (z32 5) (jS σ 80 (dp - 1) 0)) fun υ => some (z32 0, υ) := by
  have hr2 : RD (jS σ 80 (dp - 1) 0) q t v := RD_c hr (hI_jS_ne (by omega)) (hI_jS_ne (by omega)) (hI_jS_ne (by omega)) (hI_jS_ne (by omega)) (hI_jS_ne (by omega)) rfl
  obtain ⟨fs, f1, f2, f3⟩ := op_46 hn hr
  have f4 : fs = 1 := f2.2 (Classical.not_not.1 hc)
  subst f4
  rw [f3]
  obtain ⟨n1, n2, n3, n4, n5, n6, n7, n8, n9, n10⟩ := hn
  have hx := hr.2.2.2
  have hx2 := hr2.2.2.2
  simp (disch := omega) only [fX11_operand_46, fX11_operand_110, nar0, z32_add, z32_sub, z32_mul, z32_neg, z32_litn, z32_lt, z32_le, z32_eq, iG_h, lG_h, iS_q, lS_q, aI_h, wI_h, aL_h, wL_h, ↓bnd_q, bnr_q, bnc_q, ↓reduceIte, ieqT, ieqF, iltT, iltF, ileT, ileF, not_true, not_false_iff, iwz21 hx, sgz91 hx2, ne_eq, not_false_iff, ht]
theorem op_all (hn : NM σ b e om dp ba o kd ph bg) (hr : RD σ q t v) (hc : ¬ fsZ kd bg) (ht : t = 122) (he : e < 1600) : fX11_operand σ = bnr (fX11_ahead (jS (jS (jS (jS (jS σ 80 (dp - 1) 0) 74 (1600 * b + e) 9) 75 (1600 * b + e) 0) 56 34 (e + 1)) 79 (dp - 1) 2)) fun υ => some (z32 1, υ) := by
  have hr2 : RD (jS σ 80 (dp - 1) 0) q t v := RD_c hr (hI_jS_ne (by omega)) (hI_jS_ne (by omega)) (hI_jS_ne (by omega)) (hI_jS_ne (by omega)) (hI_jS_ne (by omega)) rfl
  obtain ⟨fs, f1, f2, f3⟩ := op_46 hn hr
  have f4 : fs = 1 := f2.2 (Classical.not_not.1 hc)
  subst f4
  rw [f3]
  obtain ⟨n1, n2, n3, n4, n5, n6, n7, n8, n9, n10⟩ := hn
  have hx := hr.2.2.2
  have hx2 := hr2.2.2.2
  have ma := madd_z (σ := jS σ 80 (dp - 1) 0) (s := 9) (v := 0) (e := e) (b := b) (by rw [hI_jS_ne (by omega)]; exact n1.1) (by rw [hI_jS_ne (by omega)]; exact n5.1) n5.2.1 n5.2.2 n1.2 he
  simp (disch := omega) only [fX11_operand_46, fX11_operand_110, fX11_operand_137, nar0, z32_add, z32_sub, z32_mul, z32_neg, z32_litn, z32_lt, z32_le, z32_eq, iG_h, lG_h, iS_q, lS_q, aI_h, wI_h, aL_h, wL_h, ↓bnd_q, bnr_q, bnc_q, ↓reduceIte, ieqT, ieqF, iltT, iltF, ileT, ileF, not_true, not_false_iff, iwz21 hx, sgz91 hx2, iwz22 hx2, ne_eq, not_false_iff, ht, ma]
def srt (t : Int) : Int := if t = 3 then 0 else if t = 113 then 1 else if t = 114 then 2 else if t = 115 then 3 else if t = 116 then 4 else if t = 117 then 5 else if t = 105 then 6 else if t = 101 then 7 else -1
theorem o171_b (hr : RD σ q t v) (ht : t ≠ 40 ∧ t ≠ 123 ∧ t ≠ 124 ∧ t ≠ 118 ∧ srt t = -1) : fX11_operand_171 σ = some (z32 1, jS (jS σ 56 8 1) 56 9 q) := by
  obtain ⟨r1, r2, r3, hx⟩ := hr
  obtain ⟨t1, t2, t3, t4, t5⟩ := ht
  have t6 : t ≠ 3 ∧ t ≠ 113 ∧ t ≠ 114 ∧ t ≠ 115 ∧ t ≠ 116 ∧ t ≠ 117 ∧ t ≠ 105 ∧ t ≠ 101 := by
    refine ⟨?_, ?_, ?_, ?_, ?_, ?_, ?_, ?_⟩ <;> (intro h; rw [h] at t5; revert t5; decide)
  simp (disch := omega) only [fX11_operand_171, fX11_operand_426, fX11_operand_441, z32_add, z32_sub, z32_mul, z32_neg, z32_litn, z32_lt, z32_le, z32_eq, iG_h, lG_h, iS_q, lS_q, aI_h, wI_h, aL_h, wL_h, ↓bnd_q, bnr_q, bnc_q, ↓reduceIte, ieqT, ieqF, iltT, iltF, ileT, ileF, not_true, not_false_iff, sgz40 hx, iwz23 hx, iwz24 hx, iwz18 hx, mkz2 hx, iwz13 hx, iwz14 hx, iwz15 hx, iwz16 hx, iwz17 hx, iwz5 hx, iwz1 hx, ne_eq, not_false_iff, r3, blm_0 r1, fk8]
theorem o171_p (hr : RD σ q t v) (ht : t = 40) : fX11_operand_171 σ = bnr (fX11_opens (z32 2) σ) fun υ => some (z32 0, υ) := by
  have hx := hr.2.2.2
  simp (disch := omega) only [fX11_operand_171, z32_add, z32_sub, z32_mul, z32_neg, z32_litn, z32_lt, z32_le, z32_eq, iG_h, lG_h, iS_q, lS_q, aI_h, wI_h, aL_h, wL_h, ↓bnd_q, bnr_q, bnc_q, ↓reduceIte, ieqT, ieqF, iltT, iltF, ileT, ileF, not_true, not_false_iff, sgz40 hx, ne_eq, ht]
theorem o171_f {wh : Int} (hr : RD σ q t v) (ht : (t = 123 ∧ wh = 15) ∨ (t = 124 ∧ wh = 16) ∨ (t = 118 ∧ wh = 23)) : fX11_operand_171 σ = fX11_operand_249 (z32 wh) σ := by
  have hx := hr.2.2.2
  rcases ht with ⟨ht, hw⟩ | ⟨ht, hw⟩ | ⟨ht, hw⟩
  · subst hw
    simp (disch := omega) only [fX11_operand_171, fX11_operand_217, z32_add, z32_sub, z32_mul, z32_neg, z32_litn, z32_lt, z32_le, z32_eq, iG_h, lG_h, iS_q, lS_q, aI_h, wI_h, aL_h, wL_h, ↓bnd_q, bnr_q, bnc_q, ↓reduceIte, ieqT, ieqF, iltT, iltF, ileT, ileF, not_true, not_false_iff, sgz40 hx, iwz23 hx, ne_eq, not_false_iff, ht]
  · subst hw
    simp (disch := omega) only [fX11_operand_171, fX11_operand_217, z32_add, z32_sub, z32_mul, z32_neg, z32_litn, z32_lt, z32_le, z32_eq, iG_h, lG_h, iS_q, lS_q, aI_h, wI_h, aL_h, wL_h, ↓bnd_q, bnr_q, bnc_q, ↓reduceIte, ieqT, ieqF, iltT, iltF, ileT, ileF, not_true, not_false_iff, sgz40 hx, iwz23 hx, iwz24 hx, ne_eq, not_false_iff, ht]
  · subst hw
    simp (disch := omega) only [fX11_operand_171, fX11_operand_217, z32_add, z32_sub, z32_mul, z32_neg, z32_litn, z32_lt, z32_le, z32_eq, iG_h, lG_h, iS_q, lS_q, aI_h, wI_h, aL_h, wL_h, ↓bnd_q, bnr_q, bnc_q, ↓reduceIte, ieqT, ieqF, iltT, iltF, ileT, ileF, not_true, not_false_iff, sgz40 hx, iwz23 hx, iwz24 hx, iwz18 hx, ne_eq, not_false_iff, ht]
theorem o171_l (hr : RD σ q t v) (ht : 0 ≤ srt t) (h34 : hI σ 56 34 = e) (h35 : hI σ 56 35 = b) (hb : 0 ≤ b) (hb' : b ≤ 1) (he : 0 ≤ e) (he' : e < 1600) : fX11_operand_171 σ = bnr (fX11_ahead (jS (jS (jS σ 74 (1600 * b + e) (srt t)) 75 (1600 * b + e) (hI σ 56 6)) 56 34 (e + 1))) fun υ => some (z32 1, υ) := by
  obtain ⟨r1, r2, r3, hx⟩ := hr
  have ma := madd_z (σ := σ) (s := srt t) (v := hI σ 56 6) h34 h35 hb hb' he he'
  have h : t = 3 ∨ t = 113 ∨ t = 114 ∨ t = 115 ∨ t = 116 ∨ t = 117 ∨ t = 105 ∨ t = 101 := by
    unfold srt at ht
    repeat' split at ht
    all_goals omega
  have key : ∀ s, srt t = s → 0 ≤ s ∧ s ≤ 7 → fX11_operand_426 (z32 s) σ = bnr (fX11_ahead (jS (jS (jS σ 74 (1600 * b + e) (srt t)) 75 (1600 * b + e) (hI σ 56 6)) 56 34 (e + 1))) fun υ => some (z32 1, υ) := fun s hs hb => by
    rw [hs] at ma
    simp (disch := omega) only [fX11_operand_426, fX11_operand_441, z32_add, z32_sub, z32_mul, z32_neg, z32_litn, z32_lt, z32_le, z32_eq, iG_h, lG_h, iS_q, lS_q, aI_h, wI_h, aL_h, wL_h, ↓bnd_q, bnr_q, bnc_q, ↓reduceIte, ieqT, ieqF, iltT, iltF, ileT, ileF, not_true, not_false_iff, r1, ma, hs]
  rcases h with h | h | h | h | h | h | h | h
  · simp (disch := omega) only [fX11_operand_171, z32_litn, iG_h, ↓reduceIte, ieqT, ieqF, iltT, iltF, ileT, ileF, not_true, not_false_iff, sgz40 hx, iwz23 hx, iwz24 hx, iwz18 hx, mkz2 hx, ne_eq, not_false_iff]
    exact key 0 (by rw [h]; decide) (by omega)
  · simp (disch := omega) only [fX11_operand_171, z32_litn, iG_h, ↓reduceIte, ieqT, ieqF, iltT, iltF, ileT, ileF, not_true, not_false_iff, sgz40 hx, iwz23 hx, iwz24 hx, iwz18 hx, mkz2 hx, iwz13 hx, ne_eq, not_false_iff]
    exact key 1 (by rw [h]; decide) (by omega)
  · simp (disch := omega) only [fX11_operand_171, z32_litn, iG_h, ↓reduceIte, ieqT, ieqF, iltT, iltF, ileT, ileF, not_true, not_false_iff, sgz40 hx, iwz23 hx, iwz24 hx, iwz18 hx, mkz2 hx, iwz13 hx, iwz14 hx, ne_eq, not_false_iff]
    exact key 2 (by rw [h]; decide) (by omega)
  · simp (disch := omega) only [fX11_operand_171, z32_litn, iG_h, ↓reduceIte, ieqT, ieqF, iltT, iltF, ileT, ileF, not_true, not_false_iff, sgz40 hx, iwz23 hx, iwz24 hx, iwz18 hx, mkz2 hx, iwz13 hx, iwz14 hx, iwz15 hx, ne_eq, not_false_iff]
    exact key 3 (by rw [h]; decide) (by omega)
  · simp (disch := omega) only [fX11_operand_171, z32_litn, iG_h, ↓reduceIte, ieqT, ieqF, iltT, iltF, ileT, ileF, not_true, not_false_iff, sgz40 hx, iwz23 hx, iwz24 hx, iwz18 hx, mkz2 hx, iwz13 hx, iwz14 hx, iwz15 hx, iwz16 hx, ne_eq, not_false_iff]
    exact key 4 (by rw [h]; decide) (by omega)
  · simp (disch := omega) only [fX11_operand_171, z32_litn, iG_h, ↓reduceIte, ieqT, ieqF, iltT, iltF, ileT, ileF, not_true, not_false_iff, sgz40 hx, iwz23 hx, iwz24 hx, iwz18 hx, mkz2 hx, iwz13 hx, iwz14 hx, iwz15 hx, iwz16 hx, iwz17 hx, ne_eq, not_false_iff]
    exact key 5 (by rw [h]; decide) (by omega)
  · simp (disch := omega) only [fX11_operand_171, z32_litn, iG_h, ↓reduceIte, ieqT, ieqF, iltT, iltF, ileT, ileF, not_true, not_false_iff, sgz40 hx, iwz23 hx, iwz24 hx, iwz18 hx, mkz2 hx, iwz13 hx, iwz14 hx, iwz15 hx, iwz16 hx, iwz17 hx, iwz5 hx, ne_eq, not_false_iff]
    exact key 6 (by rw [h]; decide) (by omega)
  · simp (disch := omega) only [fX11_operand_171, z32_litn, iG_h, ↓reduceIte, ieqT, ieqF, iltT, iltF, ileT, ileF, not_true, not_false_iff, sgz40 hx, iwz23 hx, iwz24 hx, iwz18 hx, mkz2 hx, iwz13 hx, iwz14 hx, iwz15 hx, iwz16 hx, iwz17 hx, iwz5 hx, iwz1 hx, ne_eq, not_false_iff]
    exact key 7 (by rw [h]; decide) (by omega)
end ST

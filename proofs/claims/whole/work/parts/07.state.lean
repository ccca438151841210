/-! MY OWN: the state between calls of the law, as functions; the rows over it. (The layout is written by program.) -/
/-- ints, longs; which of the two roads is spare, the judge's, the reader's -/
abbrev zS : Type := (Nat → Nat → Int32) × (Nat → Nat → Int64) × Bool × Bool × Bool
def rp : Bool → Nat
  | false => 9
  | true => 38
def zKl : List Nat := [99, 10, 9, 22, 7, 20, 2, 20, 4, 6, 20, 20, 20, 20, 20, 20, 20, 20, 20, 20, 8, 20, 20, 20, 20, 20, 20, 0, 21, 21, 21, 20, 1, 20, 20, 3, 20, 20, 6, 20, 20, 20, 20, 20, 20, 20, 20, 20, 20, 8, 20, 20, 20, 20, 5, 20, 11, 20, 20, 20, 20, 20, 20, 20, 20, 20, 20, 20, 20, 20, 20, 20, 20, 20, 20, 20, 21, 21, 20, 20, 23, 20, 20, 20, 20, 20, 20, 20, 20, 20, 20, 20, 20, 20, 20, 21, 20, 21, 20, 20, 20, 20, 20]
def zLl : List Nat := [0, 0, 0, 1600, 0, 104, 0, 2080, 0, 0, 6, 6, 6, 24, 24, 6, 6, 6, 6, 36, 0, 1600, 64, 2, 2, 6, 7, 0, 244, 244, 5, 6, 0, 12, 12, 0, 68, 5, 0, 6, 6, 6, 24, 24, 6, 6, 6, 6, 36, 0, 1600, 64, 2, 2, 0, 25, 0, 1800, 2, 12, 12, 48, 48, 2, 12, 12, 12, 72, 2, 2, 2, 2, 2, 2, 3200, 3200, 12, 12, 20, 20, 20, 20, 20, 500, 5, 22, 132, 132, 132, 792, 22, 1056, 1056, 1056, 1056, 500, 6, 305, 6, 12, 12, 6, 70]
def zRl (t : Bool × Bool × Bool) : List (List Nat) := [[], [2, 4, 6, 8, 27, 32, 35, 37, rp t.1, 54, 0], [3, 0], [], [5], [], [7, 0, 0], [], [rp t.2.1, 4, 25, 26], [0, 0, 0, 0, 0, 10, 11, 12, 13, 14, 15, 16, 17, 18, 19, 20], [], [], [], [], [], [], [], [], [], [], [21, 22, 0, 0, 23, 24], [], [], [], [], [], [], [8, 28, 29, 30, 0, 0, 0, 0, 0, 0, 0, 31, 0], [], [], [], [], [33, 34, 0, 0], [], [], [36, 0], [], [], [0, 0, 0, 0, 0, 39, 40, 41, 42, 43, 44, 45, 46, 47, 48, 49], [], [], [], [], [], [], [], [], [], [], [50, 51, 0, 0, 52, 53], [], [], [], [], [55, 2, rp t.2.2, 0, 0, 0, 0, 0, 0, 0, 0], [], [57, 0, 0, 0, 0, 0, 0, 0, 0, 0, 0, 0, 0, 0, 58, 59, 60, 61, 62, 63, 64, 65, 66, 67, 68, 69, 70, 71, 72, 73, 74, 75, 76, 77, 0, 0, 78, 79, 80, 81, 82, 0, 0, 83, 0, 0, 84, 85, 86, 87, 88, 89, 90, 91, 92, 93, 94, 0, 0, 0, 95, 0, 0, 0, 0, 0, 0, 96, 0, 0, 97, 98, 0, 0, 99, 100, 101, 102, 0], [], [], [], [], [], [], [], [], [], [], [], [], [], [], [], [], [], [], [], [], [], [], [], [], [], [], [], [], [], [], [], [], [], [], [], [], [], [], [], [], [], [], [], [], [], []]
def zY0 (sc : Nat × (Nat → Int32)) : zY := (fun p => zKl.getD p 99, fun p => zLl.getD p 0, sc)
def zR0 (t : Bool × Bool × Bool) (p k : Nat) : Nat := ((zRl t).getD p []).getD k 0
def zE (σ : zS) : zM := (σ.1, σ.2.1, zR0 σ.2.2, 102)
def iG (σ : zS) (p k : Nat) : Int32 := σ.1 p k
def lG (σ : zS) (p k : Nat) : Int64 := σ.2.1 p k
def iS (σ : zS) (p k : Nat) (v : Int32) : zS := (va_up σ.1 p (upd (σ.1 p) k v), σ.2)
def lS (σ : zS) (p k : Nat) (v : Int64) : zS := (σ.1, va_up σ.2.1 p (vp_updL (σ.2.1 p) k v), σ.2.2)
/-- a whole row of ints anew -/
def aS (σ : zS) (p : Nat) (f : Nat → Int32) : zS := (va_up σ.1 p f, σ.2)
def qS (σ : zS) (t : Bool × Bool × Bool) : zS := (σ.1, σ.2.1, t)
-- how the functions are put together
def bnd {α β : Type} (x : α) (F : α → β) : β := F x
def ixb (i : Int32) (n : Nat) : Bool := decide (0 ≤ i.toInt) && decide (i.toInt < n)
def aI {β : Type} (σ : zS) (p n : Nat) (i : Int32) (F : Int32 → Option β) : Option β := if ixb i n = true then F (iG σ p i.toNatClampNeg) else none
def aL {β : Type} (σ : zS) (p n : Nat) (i : Int32) (F : Int64 → Option β) : Option β := if ixb i n = true then F (lG σ p i.toNatClampNeg) else none
def wI {β : Type} (σ : zS) (p n : Nat) (i v : Int32) (F : zS → Option β) : Option β := if ixb i n = true then F (iS σ p i.toNatClampNeg v) else none
def wL {β : Type} (σ : zS) (p n : Nat) (i : Int32) (v : Int64) (F : zS → Option β) : Option β := if ixb i n = true then F (lS σ p i.toNatClampNeg v) else none
def gd {β : Type} (c : Prop) [Decidable c] (F : Option β) : Option β := if c then F else none
def bnr {α β : Type} (x : Option α) (F : α → Option β) : Option β := x.bind F
def bnc {α β : Type} (x : Option (α × zS)) (F : α → zS → Option β) : Option β := x.bind fun z => F z.1 z.2
def wC {β : Type} (σ : zS) (x y nx ny : Nat) (sp dp n : Int32) (F : zS → Option β) : Option β := if 0 ≤ sp.toInt ∧ 0 ≤ dp.toInt ∧ 0 ≤ n.toInt ∧ sp.toInt + n.toInt ≤ nx ∧ dp.toInt + n.toInt ≤ ny then F (aS σ y (va_cpy (σ.1 x) (σ.1 y) sp.toNatClampNeg dp.toNatClampNeg n.toNatClampNeg)) else none
/-- rounds that a loop may take -/
def zF : Nat := 1000000
theorem ixb_in {i : Int32} {n : Nat} (h : ixb i n = true) : vp_in i n := by
  rw [vp_in_iff]
  simpa [ixb] using h
theorem zat {sc : Nat × (Nat → Int32)} {σ : zS} (x c : Nat) (h : (Nat.ble 1 x && (Nat.ble x 102 && Nat.beq (zKl.getD x 99) c)) = true) : zAt (zY0 sc) (zE σ) x c := by
  simp only [Bool.and_eq_true] at h
  exact ⟨Nat.le_of_ble_eq_true h.1, Nat.le_of_ble_eq_true h.2.1, Nat.eq_of_beq_eq_true h.2.2⟩
theorem zatR {sc : Nat × (Nat → Int32)} {σ : zS} (β : Bool) (f c : Nat) (h1 : (Nat.ble 1 (9 + f) && (Nat.ble (9 + f) 102 && Nat.beq (zKl.getD (9 + f) 99) c)) = true) (h2 : (Nat.ble 1 (38 + f) && (Nat.ble (38 + f) 102 && Nat.beq (zKl.getD (38 + f) 99) c)) = true) : zAt (zY0 sc) (zE σ) (rp β + f) c := by
  cases β
  · exact zat _ _ h1
  · exact zat _ _ h2
theorem zp1 {sc : Nat × (Nat → Int32)} {σ : zS} : zAt (zY0 sc) (zE σ) 1 10 := zat 1 10 rfl
theorem zp2 {sc : Nat × (Nat → Int32)} {σ : zS} : zAt (zY0 sc) (zE σ) 2 9 := zat 2 9 rfl
theorem zp3 {sc : Nat × (Nat → Int32)} {σ : zS} : zAt (zY0 sc) (zE σ) 3 22 := zat 3 22 rfl
theorem zp4 {sc : Nat × (Nat → Int32)} {σ : zS} : zAt (zY0 sc) (zE σ) 4 7 := zat 4 7 rfl
theorem zp5 {sc : Nat × (Nat → Int32)} {σ : zS} : zAt (zY0 sc) (zE σ) 5 20 := zat 5 20 rfl
theorem zp6 {sc : Nat × (Nat → Int32)} {σ : zS} : zAt (zY0 sc) (zE σ) 6 2 := zat 6 2 rfl
theorem zp7 {sc : Nat × (Nat → Int32)} {σ : zS} : zAt (zY0 sc) (zE σ) 7 20 := zat 7 20 rfl
theorem zp8 {sc : Nat × (Nat → Int32)} {σ : zS} : zAt (zY0 sc) (zE σ) 8 4 := zat 8 4 rfl
theorem zp9 {sc : Nat × (Nat → Int32)} {σ : zS} : zAt (zY0 sc) (zE σ) 9 6 := zat 9 6 rfl
theorem zp10 {sc : Nat × (Nat → Int32)} {σ : zS} : zAt (zY0 sc) (zE σ) 10 20 := zat 10 20 rfl
theorem zp11 {sc : Nat × (Nat → Int32)} {σ : zS} : zAt (zY0 sc) (zE σ) 11 20 := zat 11 20 rfl
theorem zp12 {sc : Nat × (Nat → Int32)} {σ : zS} : zAt (zY0 sc) (zE σ) 12 20 := zat 12 20 rfl
theorem zp13 {sc : Nat × (Nat → Int32)} {σ : zS} : zAt (zY0 sc) (zE σ) 13 20 := zat 13 20 rfl
theorem zp14 {sc : Nat × (Nat → Int32)} {σ : zS} : zAt (zY0 sc) (zE σ) 14 20 := zat 14 20 rfl
theorem zp15 {sc : Nat × (Nat → Int32)} {σ : zS} : zAt (zY0 sc) (zE σ) 15 20 := zat 15 20 rfl
theorem zp16 {sc : Nat × (Nat → Int32)} {σ : zS} : zAt (zY0 sc) (zE σ) 16 20 := zat 16 20 rfl
theorem zp17 {sc : Nat × (Nat → Int32)} {σ : zS} : zAt (zY0 sc) (zE σ) 17 20 := zat 17 20 rfl
theorem zp18 {sc : Nat × (Nat → Int32)} {σ : zS} : zAt (zY0 sc) (zE σ) 18 20 := zat 18 20 rfl
theorem zp19 {sc : Nat × (Nat → Int32)} {σ : zS} : zAt (zY0 sc) (zE σ) 19 20 := zat 19 20 rfl
theorem zp20 {sc : Nat × (Nat → Int32)} {σ : zS} : zAt (zY0 sc) (zE σ) 20 8 := zat 20 8 rfl
theorem zp21 {sc : Nat × (Nat → Int32)} {σ : zS} : zAt (zY0 sc) (zE σ) 21 20 := zat 21 20 rfl
theorem zp22 {sc : Nat × (Nat → Int32)} {σ : zS} : zAt (zY0 sc) (zE σ) 22 20 := zat 22 20 rfl
theorem zp23 {sc : Nat × (Nat → Int32)} {σ : zS} : zAt (zY0 sc) (zE σ) 23 20 := zat 23 20 rfl
theorem zp24 {sc : Nat × (Nat → Int32)} {σ : zS} : zAt (zY0 sc) (zE σ) 24 20 := zat 24 20 rfl
theorem zp25 {sc : Nat × (Nat → Int32)} {σ : zS} : zAt (zY0 sc) (zE σ) 25 20 := zat 25 20 rfl
theorem zp26 {sc : Nat × (Nat → Int32)} {σ : zS} : zAt (zY0 sc) (zE σ) 26 20 := zat 26 20 rfl
theorem zp27 {sc : Nat × (Nat → Int32)} {σ : zS} : zAt (zY0 sc) (zE σ) 27 0 := zat 27 0 rfl
theorem zp28 {sc : Nat × (Nat → Int32)} {σ : zS} : zAt (zY0 sc) (zE σ) 28 21 := zat 28 21 rfl
theorem zp29 {sc : Nat × (Nat → Int32)} {σ : zS} : zAt (zY0 sc) (zE σ) 29 21 := zat 29 21 rfl
theorem zp30 {sc : Nat × (Nat → Int32)} {σ : zS} : zAt (zY0 sc) (zE σ) 30 21 := zat 30 21 rfl
theorem zp31 {sc : Nat × (Nat → Int32)} {σ : zS} : zAt (zY0 sc) (zE σ) 31 20 := zat 31 20 rfl
theorem zp32 {sc : Nat × (Nat → Int32)} {σ : zS} : zAt (zY0 sc) (zE σ) 32 1 := zat 32 1 rfl
theorem zp33 {sc : Nat × (Nat → Int32)} {σ : zS} : zAt (zY0 sc) (zE σ) 33 20 := zat 33 20 rfl
theorem zp34 {sc : Nat × (Nat → Int32)} {σ : zS} : zAt (zY0 sc) (zE σ) 34 20 := zat 34 20 rfl
theorem zp35 {sc : Nat × (Nat → Int32)} {σ : zS} : zAt (zY0 sc) (zE σ) 35 3 := zat 35 3 rfl
theorem zp36 {sc : Nat × (Nat → Int32)} {σ : zS} : zAt (zY0 sc) (zE σ) 36 20 := zat 36 20 rfl
theorem zp37 {sc : Nat × (Nat → Int32)} {σ : zS} : zAt (zY0 sc) (zE σ) 37 20 := zat 37 20 rfl
theorem zp38 {sc : Nat × (Nat → Int32)} {σ : zS} : zAt (zY0 sc) (zE σ) 38 6 := zat 38 6 rfl
theorem zp39 {sc : Nat × (Nat → Int32)} {σ : zS} : zAt (zY0 sc) (zE σ) 39 20 := zat 39 20 rfl
theorem zp40 {sc : Nat × (Nat → Int32)} {σ : zS} : zAt (zY0 sc) (zE σ) 40 20 := zat 40 20 rfl
theorem zp41 {sc : Nat × (Nat → Int32)} {σ : zS} : zAt (zY0 sc) (zE σ) 41 20 := zat 41 20 rfl
theorem zp42 {sc : Nat × (Nat → Int32)} {σ : zS} : zAt (zY0 sc) (zE σ) 42 20 := zat 42 20 rfl
theorem zp43 {sc : Nat × (Nat → Int32)} {σ : zS} : zAt (zY0 sc) (zE σ) 43 20 := zat 43 20 rfl
theorem zp44 {sc : Nat × (Nat → Int32)} {σ : zS} : zAt (zY0 sc) (zE σ) 44 20 := zat 44 20 rfl
theorem zp45 {sc : Nat × (Nat → Int32)} {σ : zS} : zAt (zY0 sc) (zE σ) 45 20 := zat 45 20 rfl
theorem zp46 {sc : Nat × (Nat → Int32)} {σ : zS} : zAt (zY0 sc) (zE σ) 46 20 := zat 46 20 rfl
theorem zp47 {sc : Nat × (Nat → Int32)} {σ : zS} : zAt (zY0 sc) (zE σ) 47 20 := zat 47 20 rfl
theorem zp48 {sc : Nat × (Nat → Int32)} {σ : zS} : zAt (zY0 sc) (zE σ) 48 20 := zat 48 20 rfl
theorem zp49 {sc : Nat × (Nat → Int32)} {σ : zS} : zAt (zY0 sc) (zE σ) 49 8 := zat 49 8 rfl
theorem zp50 {sc : Nat × (Nat → Int32)} {σ : zS} : zAt (zY0 sc) (zE σ) 50 20 := zat 50 20 rfl
theorem zp51 {sc : Nat × (Nat → Int32)} {σ : zS} : zAt (zY0 sc) (zE σ) 51 20 := zat 51 20 rfl
theorem zp52 {sc : Nat × (Nat → Int32)} {σ : zS} : zAt (zY0 sc) (zE σ) 52 20 := zat 52 20 rfl
theorem zp53 {sc : Nat × (Nat → Int32)} {σ : zS} : zAt (zY0 sc) (zE σ) 53 20 := zat 53 20 rfl
theorem zp54 {sc : Nat × (Nat → Int32)} {σ : zS} : zAt (zY0 sc) (zE σ) 54 5 := zat 54 5 rfl
theorem zp55 {sc : Nat × (Nat → Int32)} {σ : zS} : zAt (zY0 sc) (zE σ) 55 20 := zat 55 20 rfl
theorem zp56 {sc : Nat × (Nat → Int32)} {σ : zS} : zAt (zY0 sc) (zE σ) 56 11 := zat 56 11 rfl
theorem zp57 {sc : Nat × (Nat → Int32)} {σ : zS} : zAt (zY0 sc) (zE σ) 57 20 := zat 57 20 rfl
theorem zp58 {sc : Nat × (Nat → Int32)} {σ : zS} : zAt (zY0 sc) (zE σ) 58 20 := zat 58 20 rfl
theorem zp59 {sc : Nat × (Nat → Int32)} {σ : zS} : zAt (zY0 sc) (zE σ) 59 20 := zat 59 20 rfl
theorem zp60 {sc : Nat × (Nat → Int32)} {σ : zS} : zAt (zY0 sc) (zE σ) 60 20 := zat 60 20 rfl
theorem zp61 {sc : Nat × (Nat → Int32)} {σ : zS} : zAt (zY0 sc) (zE σ) 61 20 := zat 61 20 rfl
theorem zp62 {sc : Nat × (Nat → Int32)} {σ : zS} : zAt (zY0 sc) (zE σ) 62 20 := zat 62 20 rfl
theorem zp63 {sc : Nat × (Nat → Int32)} {σ : zS} : zAt (zY0 sc) (zE σ) 63 20 := zat 63 20 rfl
theorem zp64 {sc : Nat × (Nat → Int32)} {σ : zS} : zAt (zY0 sc) (zE σ) 64 20 := zat 64 20 rfl
theorem zp65 {sc : Nat × (Nat → Int32)} {σ : zS} : zAt (zY0 sc) (zE σ) 65 20 := zat 65 20 rfl
theorem zp66 {sc : Nat × (Nat → Int32)} {σ : zS} : zAt (zY0 sc) (zE σ) 66 20 := zat 66 20 rfl
theorem zp67 {sc : Nat × (Nat → Int32)} {σ : zS} : zAt (zY0 sc) (zE σ) 67 20 := zat 67 20 rfl
theorem zp68 {sc : Nat × (Nat → Int32)} {σ : zS} : zAt (zY0 sc) (zE σ) 68 20 := zat 68 20 rfl
theorem zp69 {sc : Nat × (Nat → Int32)} {σ : zS} : zAt (zY0 sc) (zE σ) 69 20 := zat 69 20 rfl
theorem zp70 {sc : Nat × (Nat → Int32)} {σ : zS} : zAt (zY0 sc) (zE σ) 70 20 := zat 70 20 rfl
theorem zp71 {sc : Nat × (Nat → Int32)} {σ : zS} : zAt (zY0 sc) (zE σ) 71 20 := zat 71 20 rfl
theorem zp72 {sc : Nat × (Nat → Int32)} {σ : zS} : zAt (zY0 sc) (zE σ) 72 20 := zat 72 20 rfl
theorem zp73 {sc : Nat × (Nat → Int32)} {σ : zS} : zAt (zY0 sc) (zE σ) 73 20 := zat 73 20 rfl
theorem zp74 {sc : Nat × (Nat → Int32)} {σ : zS} : zAt (zY0 sc) (zE σ) 74 20 := zat 74 20 rfl
theorem zp75 {sc : Nat × (Nat → Int32)} {σ : zS} : zAt (zY0 sc) (zE σ) 75 20 := zat 75 20 rfl
theorem zp76 {sc : Nat × (Nat → Int32)} {σ : zS} : zAt (zY0 sc) (zE σ) 76 21 := zat 76 21 rfl
theorem zp77 {sc : Nat × (Nat → Int32)} {σ : zS} : zAt (zY0 sc) (zE σ) 77 21 := zat 77 21 rfl
theorem zp78 {sc : Nat × (Nat → Int32)} {σ : zS} : zAt (zY0 sc) (zE σ) 78 20 := zat 78 20 rfl
theorem zp79 {sc : Nat × (Nat → Int32)} {σ : zS} : zAt (zY0 sc) (zE σ) 79 20 := zat 79 20 rfl
theorem zp80 {sc : Nat × (Nat → Int32)} {σ : zS} : zAt (zY0 sc) (zE σ) 80 23 := zat 80 23 rfl
theorem zp81 {sc : Nat × (Nat → Int32)} {σ : zS} : zAt (zY0 sc) (zE σ) 81 20 := zat 81 20 rfl
theorem zp82 {sc : Nat × (Nat → Int32)} {σ : zS} : zAt (zY0 sc) (zE σ) 82 20 := zat 82 20 rfl
theorem zp83 {sc : Nat × (Nat → Int32)} {σ : zS} : zAt (zY0 sc) (zE σ) 83 20 := zat 83 20 rfl
theorem zp84 {sc : Nat × (Nat → Int32)} {σ : zS} : zAt (zY0 sc) (zE σ) 84 20 := zat 84 20 rfl
theorem zp85 {sc : Nat × (Nat → Int32)} {σ : zS} : zAt (zY0 sc) (zE σ) 85 20 := zat 85 20 rfl
theorem zp86 {sc : Nat × (Nat → Int32)} {σ : zS} : zAt (zY0 sc) (zE σ) 86 20 := zat 86 20 rfl
theorem zp87 {sc : Nat × (Nat → Int32)} {σ : zS} : zAt (zY0 sc) (zE σ) 87 20 := zat 87 20 rfl
theorem zp88 {sc : Nat × (Nat → Int32)} {σ : zS} : zAt (zY0 sc) (zE σ) 88 20 := zat 88 20 rfl
theorem zp89 {sc : Nat × (Nat → Int32)} {σ : zS} : zAt (zY0 sc) (zE σ) 89 20 := zat 89 20 rfl
theorem zp90 {sc : Nat × (Nat → Int32)} {σ : zS} : zAt (zY0 sc) (zE σ) 90 20 := zat 90 20 rfl
theorem zp91 {sc : Nat × (Nat → Int32)} {σ : zS} : zAt (zY0 sc) (zE σ) 91 20 := zat 91 20 rfl
theorem zp92 {sc : Nat × (Nat → Int32)} {σ : zS} : zAt (zY0 sc) (zE σ) 92 20 := zat 92 20 rfl
theorem zp93 {sc : Nat × (Nat → Int32)} {σ : zS} : zAt (zY0 sc) (zE σ) 93 20 := zat 93 20 rfl
theorem zp94 {sc : Nat × (Nat → Int32)} {σ : zS} : zAt (zY0 sc) (zE σ) 94 20 := zat 94 20 rfl
theorem zp95 {sc : Nat × (Nat → Int32)} {σ : zS} : zAt (zY0 sc) (zE σ) 95 21 := zat 95 21 rfl
theorem zp96 {sc : Nat × (Nat → Int32)} {σ : zS} : zAt (zY0 sc) (zE σ) 96 20 := zat 96 20 rfl
theorem zp97 {sc : Nat × (Nat → Int32)} {σ : zS} : zAt (zY0 sc) (zE σ) 97 21 := zat 97 21 rfl
theorem zp98 {sc : Nat × (Nat → Int32)} {σ : zS} : zAt (zY0 sc) (zE σ) 98 20 := zat 98 20 rfl
theorem zp99 {sc : Nat × (Nat → Int32)} {σ : zS} : zAt (zY0 sc) (zE σ) 99 20 := zat 99 20 rfl
theorem zp100 {sc : Nat × (Nat → Int32)} {σ : zS} : zAt (zY0 sc) (zE σ) 100 20 := zat 100 20 rfl
theorem zp101 {sc : Nat × (Nat → Int32)} {σ : zS} : zAt (zY0 sc) (zE σ) 101 20 := zat 101 20 rfl
theorem zp102 {sc : Nat × (Nat → Int32)} {σ : zS} : zAt (zY0 sc) (zE σ) 102 20 := zat 102 20 rfl
theorem zq0 {sc : Nat × (Nat → Int32)} {σ : zS} (β : Bool) : zAt (zY0 sc) (zE σ) (rp β + 0) 6 := zatR β 0 6 rfl rfl
theorem zq1 {sc : Nat × (Nat → Int32)} {σ : zS} (β : Bool) : zAt (zY0 sc) (zE σ) (rp β + 1) 20 := zatR β 1 20 rfl rfl
theorem zl1 {sc : Nat × (Nat → Int32)} (β : Bool) : (zY0 sc).2.1 (rp β + 1) = 6 := by cases β <;> rfl
theorem zq2 {sc : Nat × (Nat → Int32)} {σ : zS} (β : Bool) : zAt (zY0 sc) (zE σ) (rp β + 2) 20 := zatR β 2 20 rfl rfl
theorem zl2 {sc : Nat × (Nat → Int32)} (β : Bool) : (zY0 sc).2.1 (rp β + 2) = 6 := by cases β <;> rfl
theorem zq3 {sc : Nat × (Nat → Int32)} {σ : zS} (β : Bool) : zAt (zY0 sc) (zE σ) (rp β + 3) 20 := zatR β 3 20 rfl rfl
theorem zl3 {sc : Nat × (Nat → Int32)} (β : Bool) : (zY0 sc).2.1 (rp β + 3) = 6 := by cases β <;> rfl
theorem zq4 {sc : Nat × (Nat → Int32)} {σ : zS} (β : Bool) : zAt (zY0 sc) (zE σ) (rp β + 4) 20 := zatR β 4 20 rfl rfl
theorem zl4 {sc : Nat × (Nat → Int32)} (β : Bool) : (zY0 sc).2.1 (rp β + 4) = 24 := by cases β <;> rfl
theorem zq5 {sc : Nat × (Nat → Int32)} {σ : zS} (β : Bool) : zAt (zY0 sc) (zE σ) (rp β + 5) 20 := zatR β 5 20 rfl rfl
theorem zl5 {sc : Nat × (Nat → Int32)} (β : Bool) : (zY0 sc).2.1 (rp β + 5) = 24 := by cases β <;> rfl
theorem zq6 {sc : Nat × (Nat → Int32)} {σ : zS} (β : Bool) : zAt (zY0 sc) (zE σ) (rp β + 6) 20 := zatR β 6 20 rfl rfl
theorem zl6 {sc : Nat × (Nat → Int32)} (β : Bool) : (zY0 sc).2.1 (rp β + 6) = 6 := by cases β <;> rfl
theorem zq7 {sc : Nat × (Nat → Int32)} {σ : zS} (β : Bool) : zAt (zY0 sc) (zE σ) (rp β + 7) 20 := zatR β 7 20 rfl rfl
theorem zl7 {sc : Nat × (Nat → Int32)} (β : Bool) : (zY0 sc).2.1 (rp β + 7) = 6 := by cases β <;> rfl
theorem zq8 {sc : Nat × (Nat → Int32)} {σ : zS} (β : Bool) : zAt (zY0 sc) (zE σ) (rp β + 8) 20 := zatR β 8 20 rfl rfl
theorem zl8 {sc : Nat × (Nat → Int32)} (β : Bool) : (zY0 sc).2.1 (rp β + 8) = 6 := by cases β <;> rfl
theorem zq9 {sc : Nat × (Nat → Int32)} {σ : zS} (β : Bool) : zAt (zY0 sc) (zE σ) (rp β + 9) 20 := zatR β 9 20 rfl rfl
theorem zl9 {sc : Nat × (Nat → Int32)} (β : Bool) : (zY0 sc).2.1 (rp β + 9) = 6 := by cases β <;> rfl
theorem zq10 {sc : Nat × (Nat → Int32)} {σ : zS} (β : Bool) : zAt (zY0 sc) (zE σ) (rp β + 10) 20 := zatR β 10 20 rfl rfl
theorem zl10 {sc : Nat × (Nat → Int32)} (β : Bool) : (zY0 sc).2.1 (rp β + 10) = 36 := by cases β <;> rfl
theorem zq11 {sc : Nat × (Nat → Int32)} {σ : zS} (β : Bool) : zAt (zY0 sc) (zE σ) (rp β + 11) 8 := zatR β 11 8 rfl rfl
theorem zq12 {sc : Nat × (Nat → Int32)} {σ : zS} (β : Bool) : zAt (zY0 sc) (zE σ) (rp β + 12) 20 := zatR β 12 20 rfl rfl
theorem zl12 {sc : Nat × (Nat → Int32)} (β : Bool) : (zY0 sc).2.1 (rp β + 12) = 1600 := by cases β <;> rfl
theorem zq13 {sc : Nat × (Nat → Int32)} {σ : zS} (β : Bool) : zAt (zY0 sc) (zE σ) (rp β + 13) 20 := zatR β 13 20 rfl rfl
theorem zl13 {sc : Nat × (Nat → Int32)} (β : Bool) : (zY0 sc).2.1 (rp β + 13) = 64 := by cases β <;> rfl
theorem zq14 {sc : Nat × (Nat → Int32)} {σ : zS} (β : Bool) : zAt (zY0 sc) (zE σ) (rp β + 14) 20 := zatR β 14 20 rfl rfl
theorem zl14 {sc : Nat × (Nat → Int32)} (β : Bool) : (zY0 sc).2.1 (rp β + 14) = 2 := by cases β <;> rfl
theorem zq15 {sc : Nat × (Nat → Int32)} {σ : zS} (β : Bool) : zAt (zY0 sc) (zE σ) (rp β + 15) 20 := zatR β 15 20 rfl rfl
theorem zl15 {sc : Nat × (Nat → Int32)} (β : Bool) : (zY0 sc).2.1 (rp β + 15) = 2 := by cases β <;> rfl
section KR
variable {sc : Nat × (Nat → Int32)} {d kc ks : Nat} {q : zMI} {pc : Nat} {ls : List (Nat × Value)} {st : List Value} {σ : zS} {μ : zM} {o : Option Value × zM} {γ : Type}
theorem kR.if_eq {a : Int32} {off : Int} {tgt : Nat} {X Z w : γ} (dg : decode q.2.1 pc = .ok (.ifCond .eq off, 3)) (ht : (pc : Int) + off = (tgt : Int)) (h : (if a = 0 then X else Z) = w) (kt : X = w → zR (zY0 sc) d kc ks q tgt ls st μ o) (kf : Z = w → zR (zY0 sc) d kc ks q (pc + 3) ls st μ o) : zR (zY0 sc) d kc ks q pc ls (.int a :: st) μ o :=
  zR.if_eq dg ht (fun g => kt (by rw [if_pos g] at h; exact h)) (fun g => kf (by rw [if_neg g] at h; exact h))
theorem kR.if_ne {a : Int32} {off : Int} {tgt : Nat} {X Z w : γ} (dg : decode q.2.1 pc = .ok (.ifCond .ne off, 3)) (ht : (pc : Int) + off = (tgt : Int)) (h : (if a = 0 then X else Z) = w) (kt : Z = w → zR (zY0 sc) d kc ks q tgt ls st μ o) (kf : X = w → zR (zY0 sc) d kc ks q (pc + 3) ls st μ o) : zR (zY0 sc) d kc ks q pc ls (.int a :: st) μ o :=
  zR.if_ne dg ht (fun g => kt (by rw [if_neg g] at h; exact h)) (fun g => kf (by rw [if_pos g] at h; exact h))
theorem kR.if_lt {a : Int32} {off : Int} {tgt : Nat} {X Z w : γ} (dg : decode q.2.1 pc = .ok (.ifCond .lt off, 3)) (ht : (pc : Int) + off = (tgt : Int)) (h : (if a < 0 then X else Z) = w) (kt : X = w → zR (zY0 sc) d kc ks q tgt ls st μ o) (kf : Z = w → zR (zY0 sc) d kc ks q (pc + 3) ls st μ o) : zR (zY0 sc) d kc ks q pc ls (.int a :: st) μ o :=
  zR.if_lt dg ht (fun g => kt (by rw [if_pos g] at h; exact h)) (fun g => kf (by rw [if_neg g] at h; exact h))
theorem kR.if_ge {a : Int32} {off : Int} {tgt : Nat} {X Z w : γ} (dg : decode q.2.1 pc = .ok (.ifCond .ge off, 3)) (ht : (pc : Int) + off = (tgt : Int)) (h : (if 0 ≤ a then X else Z) = w) (kt : X = w → zR (zY0 sc) d kc ks q tgt ls st μ o) (kf : Z = w → zR (zY0 sc) d kc ks q (pc + 3) ls st μ o) : zR (zY0 sc) d kc ks q pc ls (.int a :: st) μ o :=
  zR.if_ge dg ht (fun g => kt (by rw [if_pos g] at h; exact h)) (fun g => kf (by rw [if_neg g] at h; exact h))
theorem kR.if_gt {a : Int32} {off : Int} {tgt : Nat} {X Z w : γ} (dg : decode q.2.1 pc = .ok (.ifCond .gt off, 3)) (ht : (pc : Int) + off = (tgt : Int)) (h : (if 0 < a then X else Z) = w) (kt : X = w → zR (zY0 sc) d kc ks q tgt ls st μ o) (kf : Z = w → zR (zY0 sc) d kc ks q (pc + 3) ls st μ o) : zR (zY0 sc) d kc ks q pc ls (.int a :: st) μ o :=
  zR.if_gt dg ht (fun g => kt (by rw [if_pos g] at h; exact h)) (fun g => kf (by rw [if_neg g] at h; exact h))
theorem kR.if_le {a : Int32} {off : Int} {tgt : Nat} {X Z w : γ} (dg : decode q.2.1 pc = .ok (.ifCond .le off, 3)) (ht : (pc : Int) + off = (tgt : Int)) (h : (if a ≤ 0 then X else Z) = w) (kt : X = w → zR (zY0 sc) d kc ks q tgt ls st μ o) (kf : Z = w → zR (zY0 sc) d kc ks q (pc + 3) ls st μ o) : zR (zY0 sc) d kc ks q pc ls (.int a :: st) μ o :=
  zR.if_le dg ht (fun g => kt (by rw [if_pos g] at h; exact h)) (fun g => kf (by rw [if_neg g] at h; exact h))
theorem kR.icmp_eq {a y : Int32} {off : Int} {tgt : Nat} {X Z w : γ} (dg : decode q.2.1 pc = .ok (.if_icmp .eq off, 3)) (ht : (pc : Int) + off = (tgt : Int)) (h : (if a = y then X else Z) = w) (kt : X = w → zR (zY0 sc) d kc ks q tgt ls st μ o) (kf : Z = w → zR (zY0 sc) d kc ks q (pc + 3) ls st μ o) : zR (zY0 sc) d kc ks q pc ls (.int y :: .int a :: st) μ o :=
  zR.icmp_eq dg ht (fun g => kt (by rw [if_pos g] at h; exact h)) (fun g => kf (by rw [if_neg g] at h; exact h))
theorem kR.icmp_ne {a y : Int32} {off : Int} {tgt : Nat} {X Z w : γ} (dg : decode q.2.1 pc = .ok (.if_icmp .ne off, 3)) (ht : (pc : Int) + off = (tgt : Int)) (h : (if a = y then X else Z) = w) (kt : Z = w → zR (zY0 sc) d kc ks q tgt ls st μ o) (kf : X = w → zR (zY0 sc) d kc ks q (pc + 3) ls st μ o) : zR (zY0 sc) d kc ks q pc ls (.int y :: .int a :: st) μ o :=
  zR.icmp_ne dg ht (fun g => kt (by rw [if_neg g] at h; exact h)) (fun g => kf (by rw [if_pos g] at h; exact h))
theorem kR.icmp_lt {a y : Int32} {off : Int} {tgt : Nat} {X Z w : γ} (dg : decode q.2.1 pc = .ok (.if_icmp .lt off, 3)) (ht : (pc : Int) + off = (tgt : Int)) (h : (if a < y then X else Z) = w) (kt : X = w → zR (zY0 sc) d kc ks q tgt ls st μ o) (kf : Z = w → zR (zY0 sc) d kc ks q (pc + 3) ls st μ o) : zR (zY0 sc) d kc ks q pc ls (.int y :: .int a :: st) μ o :=
  zR.icmp_lt dg ht (fun g => kt (by rw [if_pos g] at h; exact h)) (fun g => kf (by rw [if_neg g] at h; exact h))
theorem kR.icmp_ge {a y : Int32} {off : Int} {tgt : Nat} {X Z w : γ} (dg : decode q.2.1 pc = .ok (.if_icmp .ge off, 3)) (ht : (pc : Int) + off = (tgt : Int)) (h : (if y ≤ a then X else Z) = w) (kt : X = w → zR (zY0 sc) d kc ks q tgt ls st μ o) (kf : Z = w → zR (zY0 sc) d kc ks q (pc + 3) ls st μ o) : zR (zY0 sc) d kc ks q pc ls (.int y :: .int a :: st) μ o :=
  zR.icmp_ge dg ht (fun g => kt (by rw [if_pos g] at h; exact h)) (fun g => kf (by rw [if_neg g] at h; exact h))
theorem kR.icmp_gt {a y : Int32} {off : Int} {tgt : Nat} {X Z w : γ} (dg : decode q.2.1 pc = .ok (.if_icmp .gt off, 3)) (ht : (pc : Int) + off = (tgt : Int)) (h : (if y < a then X else Z) = w) (kt : X = w → zR (zY0 sc) d kc ks q tgt ls st μ o) (kf : Z = w → zR (zY0 sc) d kc ks q (pc + 3) ls st μ o) : zR (zY0 sc) d kc ks q pc ls (.int y :: .int a :: st) μ o :=
  zR.icmp_gt dg ht (fun g => kt (by rw [if_pos g] at h; exact h)) (fun g => kf (by rw [if_neg g] at h; exact h))
theorem kR.icmp_le {a y : Int32} {off : Int} {tgt : Nat} {X Z w : γ} (dg : decode q.2.1 pc = .ok (.if_icmp .le off, 3)) (ht : (pc : Int) + off = (tgt : Int)) (h : (if a ≤ y then X else Z) = w) (kt : X = w → zR (zY0 sc) d kc ks q tgt ls st μ o) (kf : Z = w → zR (zY0 sc) d kc ks q (pc + 3) ls st μ o) : zR (zY0 sc) d kc ks q pc ls (.int y :: .int a :: st) μ o :=
  zR.icmp_le dg ht (fun g => kt (by rw [if_pos g] at h; exact h)) (fun g => kf (by rw [if_neg g] at h; exact h))
theorem lg_eq {a y : Int64} : lg_cmp a y = 0 ↔ a = y := by
  unfold lg_cmp
  constructor
  · intro h
    split at h
    · cases h
    · split at h
      · assumption
      · cases h
  · intro h
    subst h
    simp [Int64.lt_irrefl]
theorem lg_lt {a y : Int64} : lg_cmp a y < 0 ↔ a < y := by
  unfold lg_cmp
  by_cases h1 : a > y
  · rw [if_pos h1]
    exact ⟨fun z => absurd z (by decide), fun z => absurd z (Int64.lt_asymm h1)⟩
  · rw [if_neg h1]
    by_cases h2 : a = y
    · rw [if_pos h2]
      exact ⟨fun z => absurd z (by decide), fun z => absurd (h2 ▸ z) (Int64.lt_irrefl)⟩
    · rw [if_neg h2]
      refine ⟨fun _ => ?_, fun _ => by decide⟩
      rcases Int64.lt_or_eq_of_le (Int64.not_lt.mp h1) with z | z
      · exact z
      · exact absurd z h2
theorem lg_gt {a y : Int64} : 0 < lg_cmp a y ↔ y < a := by
  unfold lg_cmp
  by_cases h1 : a > y
  · rw [if_pos h1]
    exact ⟨fun _ => h1, fun _ => by decide⟩
  · rw [if_neg h1]
    refine ⟨fun z => ?_, fun z => absurd z h1⟩
    split at z <;> exact absurd z (by decide)
theorem lg_le {a y : Int64} : lg_cmp a y ≤ 0 ↔ a ≤ y := by
  rw [← Int32.not_lt, lg_gt, Int64.not_lt]
theorem lg_ge {a y : Int64} : 0 ≤ lg_cmp a y ↔ y ≤ a := by
  rw [← Int32.not_lt, lg_lt, Int64.not_lt]
theorem kR.lcmp_eq {a y : Int64} {off : Int} {tgt : Nat} {X Z w : γ} (dc : decode q.2.1 pc = .ok (.lcmp, 1)) (dg : decode q.2.1 (pc + 1) = .ok (.ifCond .eq off, 3)) (ht : ((pc + 1 : Nat) : Int) + off = (tgt : Int)) (h : (if a = y then X else Z) = w) (kt : X = w → zR (zY0 sc) d kc ks q tgt ls st μ o) (kf : Z = w → zR (zY0 sc) d kc ks q (pc + 4) ls st μ o) : zR (zY0 sc) d kc ks q pc ls (.long y :: .long a :: st) μ o :=
  zR.lcmp dc (zR.if_eq dg ht (fun g => kt (by rw [if_pos (lg_eq.mp g)] at h; exact h)) (fun g => kf (by rw [if_neg (fun z => g (lg_eq.mpr z))] at h; exact h)))
theorem kR.lcmp_ne {a y : Int64} {off : Int} {tgt : Nat} {X Z w : γ} (dc : decode q.2.1 pc = .ok (.lcmp, 1)) (dg : decode q.2.1 (pc + 1) = .ok (.ifCond .ne off, 3)) (ht : ((pc + 1 : Nat) : Int) + off = (tgt : Int)) (h : (if a = y then X else Z) = w) (kt : Z = w → zR (zY0 sc) d kc ks q tgt ls st μ o) (kf : X = w → zR (zY0 sc) d kc ks q (pc + 4) ls st μ o) : zR (zY0 sc) d kc ks q pc ls (.long y :: .long a :: st) μ o :=
  zR.lcmp dc (zR.if_ne dg ht (fun g => kt (by rw [if_neg (fun z => g (lg_eq.mpr z))] at h; exact h)) (fun g => kf (by rw [if_pos (lg_eq.mp g)] at h; exact h)))
theorem kR.lcmp_lt {a y : Int64} {off : Int} {tgt : Nat} {X Z w : γ} (dc : decode q.2.1 pc = .ok (.lcmp, 1)) (dg : decode q.2.1 (pc + 1) = .ok (.ifCond .lt off, 3)) (ht : ((pc + 1 : Nat) : Int) + off = (tgt : Int)) (h : (if a < y then X else Z) = w) (kt : X = w → zR (zY0 sc) d kc ks q tgt ls st μ o) (kf : Z = w → zR (zY0 sc) d kc ks q (pc + 4) ls st μ o) : zR (zY0 sc) d kc ks q pc ls (.long y :: .long a :: st) μ o :=
  zR.lcmp dc (zR.if_lt dg ht (fun g => kt (by rw [if_pos (lg_lt.mp g)] at h; exact h)) (fun g => kf (by rw [if_neg (fun z => g (lg_lt.mpr z))] at h; exact h)))
theorem kR.lcmp_ge {a y : Int64} {off : Int} {tgt : Nat} {X Z w : γ} (dc : decode q.2.1 pc = .ok (.lcmp, 1)) (dg : decode q.2.1 (pc + 1) = .ok (.ifCond .ge off, 3)) (ht : ((pc + 1 : Nat) : Int) + off = (tgt : Int)) (h : (if y ≤ a then X else Z) = w) (kt : X = w → zR (zY0 sc) d kc ks q tgt ls st μ o) (kf : Z = w → zR (zY0 sc) d kc ks q (pc + 4) ls st μ o) : zR (zY0 sc) d kc ks q pc ls (.long y :: .long a :: st) μ o :=
  zR.lcmp dc (zR.if_ge dg ht (fun g => kt (by rw [if_pos (lg_ge.mp g)] at h; exact h)) (fun g => kf (by rw [if_neg (fun z => g (lg_ge.mpr z))] at h; exact h)))
theorem kR.lcmp_gt {a y : Int64} {off : Int} {tgt : Nat} {X Z w : γ} (dc : decode q.2.1 pc = .ok (.lcmp, 1)) (dg : decode q.2.1 (pc + 1) = .ok (.ifCond .gt off, 3)) (ht : ((pc + 1 : Nat) : Int) + off = (tgt : Int)) (h : (if y < a then X else Z) = w) (kt : X = w → zR (zY0 sc) d kc ks q tgt ls st μ o) (kf : Z = w → zR (zY0 sc) d kc ks q (pc + 4) ls st μ o) : zR (zY0 sc) d kc ks q pc ls (.long y :: .long a :: st) μ o :=
  zR.lcmp dc (zR.if_gt dg ht (fun g => kt (by rw [if_pos (lg_gt.mp g)] at h; exact h)) (fun g => kf (by rw [if_neg (fun z => g (lg_gt.mpr z))] at h; exact h)))
theorem kR.lcmp_le {a y : Int64} {off : Int} {tgt : Nat} {X Z w : γ} (dc : decode q.2.1 pc = .ok (.lcmp, 1)) (dg : decode q.2.1 (pc + 1) = .ok (.ifCond .le off, 3)) (ht : ((pc + 1 : Nat) : Int) + off = (tgt : Int)) (h : (if a ≤ y then X else Z) = w) (kt : X = w → zR (zY0 sc) d kc ks q tgt ls st μ o) (kf : Z = w → zR (zY0 sc) d kc ks q (pc + 4) ls st μ o) : zR (zY0 sc) d kc ks q pc ls (.long y :: .long a :: st) μ o :=
  zR.lcmp dc (zR.if_le dg ht (fun g => kt (by rw [if_pos (lg_le.mp g)] at h; exact h)) (fun g => kf (by rw [if_neg (fun z => g (lg_le.mpr z))] at h; exact h)))
theorem kR.nmI {v : Int32} {F : Int32 → γ} {w : γ} (h : bnd v F = w) (kk : ∀ v, F v = w → zR (zY0 sc) d kc ks q pc ls (.int v :: st) μ o) : zR (zY0 sc) d kc ks q pc ls (.int v :: st) μ o := kk v h
theorem kR.nmL {v : Int64} {F : Int64 → γ} {w : γ} (h : bnd v F = w) (kk : ∀ v, F v = w → zR (zY0 sc) d kc ks q pc ls (.long v :: st) μ o) : zR (zY0 sc) d kc ks q pc ls (.long v :: st) μ o := kk v h
theorem kR.guard {c : Prop} [Decidable c] {F : Option γ} {w : γ} (h : gd c F = some w) : c ∧ F = some w := by
  unfold gd at h
  split at h
  · exact ⟨by assumption, h⟩
  · cases h
variable {w : γ}
theorem kR.iald {x n : Nat} {i : Int32} {F : Int32 → Option γ} (dg : decode q.2.1 pc = .ok (.iaload, 1)) (hx : zAt (zY0 sc) (zE σ) x 20) (hn : (zY0 sc).2.1 x = n) (h : aI σ x n i F = some w) (kk : ∀ v, F v = some w → zR (zY0 sc) d kc ks q (pc + 1) ls (.int v :: st) (zE σ) o) : zR (zY0 sc) d kc ks q pc ls (.int i :: .ref x :: st) (zE σ) o := by
  unfold aI at h
  split at h
  · exact zR.iald dg hx (by rw [hn]; exact ixb_in (by assumption)) (kk _ h)
  · cases h
theorem kR.bald {x n : Nat} {i : Int32} {F : Int32 → Option γ} (dg : decode q.2.1 pc = .ok (.baload, 1)) (hx : zAt (zY0 sc) (zE σ) x 22) (hn : (zY0 sc).2.1 x = n) (h : aI σ x n i F = some w) (kk : ∀ v, F v = some w → zR (zY0 sc) d kc ks q (pc + 1) ls (.int v :: st) (zE σ) o) : zR (zY0 sc) d kc ks q pc ls (.int i :: .ref x :: st) (zE σ) o := by
  unfold aI at h
  split at h
  · exact zR.bald dg hx (by rw [hn]; exact ixb_in (by assumption)) (kk _ h)
  · cases h
theorem kR.zald {x n : Nat} {i : Int32} {F : Int32 → Option γ} (dg : decode q.2.1 pc = .ok (.baload, 1)) (hx : zAt (zY0 sc) (zE σ) x 23) (hn : (zY0 sc).2.1 x = n) (h : aI σ x n i F = some w) (kk : ∀ v, F v = some w → zR (zY0 sc) d kc ks q (pc + 1) ls (.int v :: st) (zE σ) o) : zR (zY0 sc) d kc ks q pc ls (.int i :: .ref x :: st) (zE σ) o := by
  unfold aI at h
  split at h
  · exact zR.zald dg hx (by rw [hn]; exact ixb_in (by assumption)) (kk _ h)
  · cases h
theorem kR.lald {x n : Nat} {i : Int32} {F : Int64 → Option γ} (dg : decode q.2.1 pc = .ok (.laload, 1)) (hx : zAt (zY0 sc) (zE σ) x 21) (hn : (zY0 sc).2.1 x = n) (h : aL σ x n i F = some w) (kk : ∀ v, F v = some w → zR (zY0 sc) d kc ks q (pc + 1) ls (.long v :: st) (zE σ) o) : zR (zY0 sc) d kc ks q pc ls (.int i :: .ref x :: st) (zE σ) o := by
  unfold aL at h
  split at h
  · exact zR.lald dg hx (by rw [hn]; exact ixb_in (by assumption)) (kk _ h)
  · cases h
theorem kR.iast {x n : Nat} {i v : Int32} {F : zS → Option γ} (dg : decode q.2.1 pc = .ok (.iastore, 1)) (hx : zAt (zY0 sc) (zE σ) x 20) (hn : (zY0 sc).2.1 x = n) (h : wI σ x n i v F = some w) (kk : ∀ σ, F σ = some w → zR (zY0 sc) d kc ks q (pc + 1) ls st (zE σ) o) : zR (zY0 sc) d kc ks q pc ls (.int v :: .int i :: .ref x :: st) (zE σ) o := by
  unfold wI at h
  split at h
  · exact zR.iast dg hx (by rw [hn]; exact ixb_in (by assumption)) (kk _ h)
  · cases h
theorem kR.bast {x n : Nat} {i v : Int32} {F : zS → Option γ} (dg : decode q.2.1 pc = .ok (.bastore, 1)) (hx : zAt (zY0 sc) (zE σ) x 22) (hn : (zY0 sc).2.1 x = n) (h : wI σ x n i (vp_nar .byte v) F = some w) (kk : ∀ σ, F σ = some w → zR (zY0 sc) d kc ks q (pc + 1) ls st (zE σ) o) : zR (zY0 sc) d kc ks q pc ls (.int v :: .int i :: .ref x :: st) (zE σ) o := by
  unfold wI at h
  split at h
  · exact zR.bast dg hx (by rw [hn]; exact ixb_in (by assumption)) (kk _ h)
  · cases h
theorem kR.zast {x n : Nat} {i v : Int32} {F : zS → Option γ} (dg : decode q.2.1 pc = .ok (.bastore, 1)) (hx : zAt (zY0 sc) (zE σ) x 23) (hn : (zY0 sc).2.1 x = n) (h : wI σ x n i (vp_nar .boolean v) F = some w) (kk : ∀ σ, F σ = some w → zR (zY0 sc) d kc ks q (pc + 1) ls st (zE σ) o) : zR (zY0 sc) d kc ks q pc ls (.int v :: .int i :: .ref x :: st) (zE σ) o := by
  unfold wI at h
  split at h
  · exact zR.zast dg hx (by rw [hn]; exact ixb_in (by assumption)) (kk _ h)
  · cases h
theorem kR.last {x n : Nat} {i : Int32} {v : Int64} {F : zS → Option γ} (dg : decode q.2.1 pc = .ok (.lastore, 1)) (hx : zAt (zY0 sc) (zE σ) x 21) (hn : (zY0 sc).2.1 x = n) (h : wL σ x n i v F = some w) (kk : ∀ σ, F σ = some w → zR (zY0 sc) d kc ks q (pc + 1) ls st (zE σ) o) : zR (zY0 sc) d kc ks q pc ls (.long v :: .int i :: .ref x :: st) (zE σ) o := by
  unfold wL at h
  split at h
  · exact zR.last dg hx (by rw [hn]; exact ixb_in (by assumption)) (kk _ h)
  · cases h
theorem kR.copy {i x y nx ny : Nat} {sp dp n : Int32} {F : zS → Option γ} (dg : decode q.2.1 pc = .ok (.invokestatic i, 3)) (hd : 1 ≤ d) (hm : Cond.methodLink q.1.cls i arraycopyName ∈ TB ∧ Cond.native arraycopyName ∈ TB ∧ Cond.static arraycopyName ∈ TB ∧ Cond.initialized "java/lang/System" ∈ TB) (hx : zAt (zY0 sc) (zE σ) x 20) (hy : zAt (zY0 sc) (zE σ) y 20) (hnx : (zY0 sc).2.1 x = nx) (hny : (zY0 sc).2.1 y = ny) (hst : (st.map fun v => v.category).sum ≤ 8) (h : wC σ x y nx ny sp dp n F = some w) (kk : ∀ σ, F σ = some w → zR (zY0 sc) d kc ks q (pc + 3) ls st (zE σ) o) : zR (zY0 sc) d kc ks q pc ls (.int n :: .int dp :: .ref y :: .int sp :: .ref x :: st) (zE σ) o := by
  unfold wC at h
  split at h
  · rename_i g
    obtain ⟨g1, g2, g3, g4, g5⟩ := g
    have nn : ∀ z : Int32, 0 ≤ z.toInt → ¬ z < 0 := fun z hz hz2 => by
      have := Int32.lt_iff_toInt_lt.mp hz2
      simp at this
      omega
    have nt : ∀ z : Int32, 0 ≤ z.toInt → (z.toNatClampNeg : Int) = z.toInt := fun z hz => by
      show ((z.toInt.toNat : Nat) : Int) = z.toInt
      omega
    have e1 := nt sp g1
    have e2 := nt dp g2
    have e3 := nt n g3
    exact zR.copyI dg hd hm hx hy (nn _ g1) (nn _ g2) (nn _ g3) (by rw [hnx]; omega) (by rw [hny]; omega) hst (kk _ h)
  · cases h
theorem kR.putI {x ci k i : Nat} {v : Int32} {F : zS → γ} (dg : decode q.2.1 pc = .ok (.putfield i, 3)) (hf : zFp q.1.cls i ci k) (hc : zCF ci) (hx : zAt (zY0 sc) (zE σ) x ci) (hty : zTy ci k = .int) (h : bnd (iS σ x k v) F = w) (kk : ∀ σ, F σ = w → zR (zY0 sc) d kc ks q (pc + 3) ls st (zE σ) o) : zR (zY0 sc) d kc ks q pc ls (.int v :: .ref x :: st) (zE σ) o :=
  zR.putI dg (Or.inl hf) hc hx (by rw [hty]; rfl) (by rw [hty]; rfl) (fun b ν => by rw [hty]; rfl) (kk (iS σ x k v) h)
theorem kR.putZ {x ci k i : Nat} {v : Int32} {F : zS → Option γ} (dg : decode q.2.1 pc = .ok (.putfield i, 3)) (hf : zFp q.1.cls i ci k) (hc : zCF ci) (hx : zAt (zY0 sc) (zE σ) x ci) (hty : zTy ci k = .boolean) (h : gd (v = 0 ∨ v = 1) (bnd (iS σ x k v) F) = some w) (kk : ∀ σ, F σ = some w → zR (zY0 sc) d kc ks q (pc + 3) ls st (zE σ) o) : zR (zY0 sc) d kc ks q pc ls (.int v :: .ref x :: st) (zE σ) o := by
  obtain ⟨g, h⟩ := kR.guard h
  refine zR.putI dg (Or.inl hf) hc hx ?_ ?_ (fun b ν => by rw [hty]; rfl) (kk (iS σ x k v) h)
  · rw [hty]; rcases g with rfl | rfl <;> rfl
  · rw [hty]; rcases g with rfl | rfl <;> rfl
theorem kR.putL {x ci k i : Nat} {v : Int64} {F : zS → γ} (dg : decode q.2.1 pc = .ok (.putfield i, 3)) (hf : zFp q.1.cls i ci k) (hc : zCF ci) (hx : zAt (zY0 sc) (zE σ) x ci) (hty : zTy ci k = .long) (h : bnd (lS σ x k v) F = w) (kk : ∀ σ, F σ = w → zR (zY0 sc) d kc ks q (pc + 3) ls st (zE σ) o) : zR (zY0 sc) d kc ks q pc ls (.long v :: .ref x :: st) (zE σ) o :=
  zR.putL dg (Or.inl hf) hc hx hty (kk (lS σ x k v) h)
theorem kR.iret {v u : Int32} (dg : decode q.2.1 pc = .ok (.ireturn, 1)) (hn : ∀ ty x, q.2.2.2 = some ty → (Value.int v) = .int x → narrow ty (.int x) = .int x) (h : v = u) : zR (zY0 sc) d kc ks q pc ls [.int v] μ (some (.int u), μ) := by
  subst h
  exact zR.ret dg rfl hn
theorem kR.lret {v u : Int64} (dg : decode q.2.1 pc = .ok (.lreturn, 1)) (h : v = u) : zR (zY0 sc) d kc ks q pc ls [.long v] μ (some (.long u), μ) := by
  subst h
  exact zR.ret dg rfl (fun _ _ _ z => nomatch z)
theorem kR.iretO {v u : Int32} (dg : decode q.2.1 pc = .ok (.ireturn, 1)) (hn : ∀ ty x, q.2.2.2 = some ty → (Value.int v) = .int x → narrow ty (.int x) = .int x) (h : some v = some u) : zR (zY0 sc) d kc ks q pc ls [.int v] μ (some (.int u), μ) := kR.iret dg hn (Option.some.inj h)
theorem kR.lretO {v u : Int64} (dg : decode q.2.1 pc = .ok (.lreturn, 1)) (h : some v = some u) : zR (zY0 sc) d kc ks q pc ls [.long v] μ (some (.long u), μ) := kR.lret dg (Option.some.inj h)
theorem kR.iretW {v : Int32} {u : Int32 × zS} (dg : decode q.2.1 pc = .ok (.ireturn, 1)) (hn : ∀ ty x, q.2.2.2 = some ty → (Value.int v) = .int x → narrow ty (.int x) = .int x) (h : some (v, σ) = some u) : zR (zY0 sc) d kc ks q pc ls [.int v] (zE σ) (some (.int u.1), zE u.2) := by
  cases h
  exact zR.ret dg rfl hn
theorem kR.lretW {v : Int64} {u : Int64 × zS} (dg : decode q.2.1 pc = .ok (.lreturn, 1)) (h : some (v, σ) = some u) : zR (zY0 sc) d kc ks q pc ls [.long v] (zE σ) (some (.long u.1), zE u.2) := by
  cases h
  exact zR.ret dg rfl (fun _ _ _ z => nomatch z)
theorem kR.vret {u : zS} (dg : decode q.2.1 pc = .ok (.return_, 1)) (h : some σ = some u) : zR (zY0 sc) d kc ks q pc ls [] (zE σ) (none, zE u) := by
  cases h
  exact zR.vret dg
theorem kR.vretR (dg : decode q.2.1 pc = .ok (.return_, 1)) : zR (zY0 sc) d kc ks q pc ls [] μ (none, μ) := zR.vret dg
/-- ways in which a value fits what is returned -/
theorem nzI {ret : Option FieldType} (h : ret = some .int) (v : Int32) : ∀ ty x, ret = some ty → (Value.int v) = .int x → narrow ty (.int x) = .int x := by
  intro ty x h1 h2
  rw [h] at h1
  cases h1
  rfl
theorem nzZ {ret : Option FieldType} (h : ret = some .boolean) {v : Int32} (hv : v = 0 ∨ v = 1) : ∀ ty x, ret = some ty → (Value.int v) = .int x → narrow ty (.int x) = .int x := by
  intro ty x h1 h2
  rw [h] at h1
  cases h1
  cases h2
  rcases hv with rfl | rfl <;> rfl
theorem nzC {ret : Option FieldType} (h : ret = some .char) {v : Int32} (hv : narrow .char (.int v) = .int v) : ∀ ty x, ret = some ty → (Value.int v) = .int x → narrow ty (.int x) = .int x := by
  intro ty x h1 h2
  rw [h] at h1
  cases h1
  cases h2
  exact hv
end KR
theorem tne {x c : Int32} {k : Int} (e : ¬ x = c) (hk : c.toInt = k) : ¬ k = x.toInt := fun z => e (Int32.toInt_inj.mp (z.symm.trans hk.symm))
theorem ts_out {x : Int32} {lo hi : Int} {offs : Array Int} {dflt : Int} (n : Nat) (hn : hi + 1 = lo + n) (hall : ∀ j : Nat, j < n → lo + (j : Int) = x.toInt → offs[j]? = some dflt) : (x.toInt < lo ∨ hi < x.toInt) ∨ (¬ x.toInt < lo ∧ ¬ hi < x.toInt ∧ offs[(x.toInt - lo).toNat]? = some dflt) := by
  by_cases h : x.toInt < lo ∨ hi < x.toInt
  · exact Or.inl h
  · refine Or.inr ⟨fun z => h (Or.inl z), fun z => h (Or.inr z), hall _ ?_ ?_⟩ <;> omega
theorem zR.tableD {Y : zY} {d kc ks : Nat} {q : zMI} {pc : Nat} {ls : List (Nat × Value)} {st : List Value} {μ : zM} {o : Option Value × zM} {dflt lo hi : Int} {offs : Array Int} {len : Nat} {x : Int32} {tgt : Nat} (dg : decode q.2.1 pc = .ok (.tableswitch dflt lo hi offs, len)) (g : (x.toInt < lo ∨ hi < x.toInt) ∨ (¬ x.toInt < lo ∧ ¬ hi < x.toInt ∧ offs[(x.toInt - lo).toNat]? = some dflt)) (ht : (pc : Int) + dflt = (tgt : Int)) (h : zR Y d kc ks q tgt ls st μ o) : zR Y d kc ks q pc ls (.int x :: st) μ o := by
  rcases g with g | ⟨g1, g2, g3⟩
  · exact zR.tableOut dg g ht h
  · exact zR.tableIn dg g1 g2 g3 ht h

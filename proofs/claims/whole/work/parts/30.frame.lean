/-! MY OWN (by program): which cells a function may write. zSm S σ σ': but for the cells in S nothing changed. -/
def zSm (S : List Nat) (σ σ' : zS) : Prop := σ'.2.2 = σ.2.2 ∧ ∀ p, p ∉ S → σ'.1 p = σ.1 p ∧ σ'.2.1 p = σ.2.1 p
def zPr {β : Type} (S : List Nat) (σ : zS) (g : β → zS) (x : Option β) : Prop := ∀ w, x = some w → zSm S σ (g w)
theorem zSm.rfl (S : List Nat) (σ : zS) : zSm S σ σ := ⟨Eq.refl _, fun _ _ => ⟨Eq.refl _, Eq.refl _⟩⟩
theorem zSm.trans {S : List Nat} {σ σ1 σ2 : zS} (h1 : zSm S σ σ1) (h2 : zSm S σ1 σ2) : zSm S σ σ2 := ⟨h2.1.trans h1.1, fun p hp => ⟨(h2.2 p hp).1.trans (h1.2 p hp).1, (h2.2 p hp).2.trans (h1.2 p hp).2⟩⟩
theorem zSm.mono {S S' : List Nat} {σ σ1 : zS} (h : zSm S' σ σ1) (hs : ∀ p, p ∈ S' → p ∈ S) : zSm S σ σ1 := ⟨h.1, fun p hp => h.2 p (fun z => hp (hs p z))⟩
theorem zSm.iS {S : List Nat} {σ σ1 : zS} {p k : Nat} {v : Int32} (h : zSm S σ σ1) (hp : p ∈ S) : zSm S σ (iS σ1 p k v) := ⟨h.1, fun q hq => ⟨(va_up_ne _ _ (fun z => hq (z ▸ hp))).trans (h.2 q hq).1, (h.2 q hq).2⟩⟩
theorem zSm.lS {S : List Nat} {σ σ1 : zS} {p k : Nat} {v : Int64} (h : zSm S σ σ1) (hp : p ∈ S) : zSm S σ (lS σ1 p k v) := ⟨h.1, fun q hq => ⟨(h.2 q hq).1, (va_up_ne _ _ (fun z => hq (z ▸ hp))).trans (h.2 q hq).2⟩⟩
theorem zSm.aS {S : List Nat} {σ σ1 : zS} {p : Nat} {f : Nat → Int32} (h : zSm S σ σ1) (hp : p ∈ S) : zSm S σ (aS σ1 p f) := ⟨h.1, fun q hq => ⟨(va_up_ne _ _ (fun z => hq (z ▸ hp))).trans (h.2 q hq).1, (h.2 q hq).2⟩⟩
section ZP
variable {β α : Type} {S : List Nat} {σ σ1 : zS} {g : β → zS}
theorem zPr.none : zPr S σ g (none : Option β) := fun _ h => nomatch h
theorem zPr.some {w : β} (h : zSm S σ (g w)) : zPr S σ g (some w) := fun _ e => Option.some.inj e ▸ h
theorem zPr.ite {c : Prop} [Decidable c] {X Z : Option β} (h1 : zPr S σ g X) (h2 : zPr S σ g Z) : zPr S σ g (if c then X else Z) := by
  split
  · exact h1
  · exact h2
theorem zPr.gd {c : Prop} [Decidable c] {X : Option β} (h1 : zPr S σ g X) : zPr S σ g (gd c X) := zPr.ite h1 zPr.none
theorem zPr.bnv {x : α} {F : α → Option β} (k : ∀ x, zPr S σ g (F x)) : zPr S σ g (bnd x F) := k x
theorem zPr.bnr {x : Option α} {F : α → Option β} (k : ∀ x, zPr S σ g (F x)) : zPr S σ g (bnr x F) := by
  intro w h
  obtain ⟨r, -, h⟩ := bnr_some h
  exact k r w h
theorem zPr.aI {p n : Nat} {i : Int32} {F : Int32 → Option β} (k : ∀ x, zPr S σ g (F x)) : zPr S σ g (aI σ1 p n i F) := zPr.ite (k _) zPr.none
theorem zPr.aL {p n : Nat} {i : Int32} {F : Int64 → Option β} (k : ∀ x, zPr S σ g (F x)) : zPr S σ g (aL σ1 p n i F) := zPr.ite (k _) zPr.none
theorem zPr.bI {p j : Nat} {v : Int32} {F : zS → Option β} (h : zSm S σ σ1) (hp : p ∈ S) (k : ∀ σ1, zSm S σ σ1 → zPr S σ g (F σ1)) : zPr S σ g (bnd (iS σ1 p j v) F) := k _ (h.iS hp)
theorem zPr.bL {p j : Nat} {v : Int64} {F : zS → Option β} (h : zSm S σ σ1) (hp : p ∈ S) (k : ∀ σ1, zSm S σ σ1 → zPr S σ g (F σ1)) : zPr S σ g (bnd (lS σ1 p j v) F) := k _ (h.lS hp)
theorem zPr.wI {p n : Nat} {i v : Int32} {F : zS → Option β} (h : zSm S σ σ1) (hp : p ∈ S) (k : ∀ σ1, zSm S σ σ1 → zPr S σ g (F σ1)) : zPr S σ g (wI σ1 p n i v F) := zPr.ite (k _ (h.iS hp)) zPr.none
theorem zPr.wL {p n : Nat} {i : Int32} {v : Int64} {F : zS → Option β} (h : zSm S σ σ1) (hp : p ∈ S) (k : ∀ σ1, zSm S σ σ1 → zPr S σ g (F σ1)) : zPr S σ g (wL σ1 p n i v F) := zPr.ite (k _ (h.lS hp)) zPr.none
theorem zPr.wC {x y nx ny : Nat} {sp dp n : Int32} {F : zS → Option β} (h : zSm S σ σ1) (hp : y ∈ S) (k : ∀ σ1, zSm S σ σ1 → zPr S σ g (F σ1)) : zPr S σ g (wC σ1 x y nx ny sp dp n F) := zPr.ite (k _ (h.aS hp)) zPr.none
theorem zPr.bw {x : Option zS} {F : zS → Option β} {S' : Bool × Bool × Bool → List Nat} (h : zSm S σ σ1) (hx : zPr (S' σ1.2.2) σ1 id x) (hs : ∀ p, p ∈ S' σ.2.2 → p ∈ S) (k : ∀ σ1, zSm S σ σ1 → zPr S σ g (F σ1)) : zPr S σ g (bnr x F) := by
  intro w e
  obtain ⟨r, e1, e⟩ := bnr_some e
  have z := hx r e1
  rw [h.1] at z
  exact k r (h.trans (z.mono hs)) w e
theorem zPr.bc {x : Option (α × zS)} {F : α → zS → Option β} {S' : Bool × Bool × Bool → List Nat} (h : zSm S σ σ1) (hx : zPr (S' σ1.2.2) σ1 Prod.snd x) (hs : ∀ p, p ∈ S' σ.2.2 → p ∈ S) (k : ∀ r σ1, zSm S σ σ1 → zPr S σ g (F r σ1)) : zPr S σ g (bnc x F) := by
  intro w e
  obtain ⟨r, σ2, e1, e⟩ := bnc_some e
  have z := hx (r, σ2) e1
  rw [h.1] at z
  exact k r σ2 (h.trans (z.mono hs)) w e
theorem zPr.tail {x : Option β} {S' : Bool × Bool × Bool → List Nat} (h : zSm S σ σ1) (hx : zPr (S' σ1.2.2) σ1 g x) (hs : ∀ p, p ∈ S' σ.2.2 → p ∈ S) : zPr S σ g x := by
  intro w e
  have z := hx w e
  rw [h.1] at z
  exact h.trans (z.mono hs)
end ZP
def sX9_addNumber (t : Bool × Bool × Bool) : List Nat := [2, 3]
theorem mX9_addNumber_42 (r3 : Int32 → Int32 → zS → Option zS) (hr3 : ∀ (x0 : Int32) (x1 : Int32) (σ : zS), zPr (sX9_addNumber σ.2.2) σ id (r3 x0 x1 σ)) (x1 : Int32) (x2 : Int32) (σ : zS) : zPr (sX9_addNumber σ.2.2) σ id (fX9_addNumber_42 r3 x1 x2 σ) := by
  unfold fX9_addNumber_42
  have hc := zSm.rfl (sX9_addNumber σ.2.2) σ
  repeat' first
    | exact zPr.none
    | exact zPr.some (by assumption)
    | refine zPr.ite ?_ ?_
    | refine zPr.wI (by assumption) (by simp only [sX9_addNumber, List.mem_cons, List.not_mem_nil, or_false]; omega) (fun _ _ => ?_)
    | refine zPr.wL (by assumption) (by simp only [sX9_addNumber, List.mem_cons, List.not_mem_nil, or_false]; omega) (fun _ _ => ?_)
    | refine zPr.bI (by assumption) (by simp only [sX9_addNumber, List.mem_cons, List.not_mem_nil, or_false]; omega) (fun _ _ => ?_)
    | refine zPr.bL (by assumption) (by simp only [sX9_addNumber, List.mem_cons, List.not_mem_nil, or_false]; omega) (fun _ _ => ?_)
    | refine zPr.wC (by assumption) (by simp only [sX9_addNumber, List.mem_cons, List.not_mem_nil, or_false]; omega) (fun _ _ => ?_)
    | refine zPr.aI (fun _ => ?_)
    | refine zPr.aL (fun _ => ?_)
    | refine zPr.gd ?_
    | refine zPr.bnr (fun _ => ?_)
    | refine zPr.bnv (fun _ => ?_)
    | exact zPr.tail (S' := sX9_addNumber) (by assumption) (hr3 ..) (fun _ h => h)
theorem mX9_addNumber_3 : ∀ (fuel : Nat) (x1 : Int32) (x2 : Int32) (σ : zS), zPr (sX9_addNumber σ.2.2) σ id (fX9_addNumber_3 fuel x1 x2 σ) := by
  intro fuel
  induction fuel with
  | zero => intro x1 x2 σ; exact zPr.none
  | succ f ih =>
    intro x1 x2 σ
    rw [fX9_addNumber_3]
    have hc := zSm.rfl (sX9_addNumber σ.2.2) σ
    repeat' first
      | exact zPr.none
      | exact zPr.some (by assumption)
      | refine zPr.ite ?_ ?_
      | refine zPr.wI (by assumption) (by simp only [sX9_addNumber, List.mem_cons, List.not_mem_nil, or_false]; omega) (fun _ _ => ?_)
      | refine zPr.wL (by assumption) (by simp only [sX9_addNumber, List.mem_cons, List.not_mem_nil, or_false]; omega) (fun _ _ => ?_)
      | refine zPr.bI (by assumption) (by simp only [sX9_addNumber, List.mem_cons, List.not_mem_nil, or_false]; omega) (fun _ _ => ?_)
      | refine zPr.bL (by assumption) (by simp only [sX9_addNumber, List.mem_cons, List.not_mem_nil, or_false]; omega) (fun _ _ => ?_)
      | refine zPr.wC (by assumption) (by simp only [sX9_addNumber, List.mem_cons, List.not_mem_nil, or_false]; omega) (fun _ _ => ?_)
      | refine zPr.aI (fun _ => ?_)
      | refine zPr.aL (fun _ => ?_)
      | refine zPr.gd ?_
      | refine zPr.bnr (fun _ => ?_)
      | refine zPr.bnv (fun _ => ?_)
      | exact zPr.tail (S' := sX9_addNumber) (by assumption) (ih ..) (fun _ h => h)
      | exact zPr.tail (S' := sX9_addNumber) (by assumption) (mX9_addNumber_42 _ (by first | assumption | exact ih | (intros; apply ih) | (intros; apply mX9_addNumber_3)) ..) (fun _ h => h)
theorem mX9_addNumber (p1 : Int32) (σ : zS) : zPr (sX9_addNumber σ.2.2) σ id (fX9_addNumber p1 σ) := by
  unfold fX9_addNumber
  have hc := zSm.rfl (sX9_addNumber σ.2.2) σ
  repeat' first
    | exact zPr.none
    | exact zPr.some (by assumption)
    | refine zPr.ite ?_ ?_
    | refine zPr.wI (by assumption) (by simp only [sX9_addNumber, List.mem_cons, List.not_mem_nil, or_false]; omega) (fun _ _ => ?_)
    | refine zPr.wL (by assumption) (by simp only [sX9_addNumber, List.mem_cons, List.not_mem_nil, or_false]; omega) (fun _ _ => ?_)
    | refine zPr.bI (by assumption) (by simp only [sX9_addNumber, List.mem_cons, List.not_mem_nil, or_false]; omega) (fun _ _ => ?_)
    | refine zPr.bL (by assumption) (by simp only [sX9_addNumber, List.mem_cons, List.not_mem_nil, or_false]; omega) (fun _ _ => ?_)
    | refine zPr.wC (by assumption) (by simp only [sX9_addNumber, List.mem_cons, List.not_mem_nil, or_false]; omega) (fun _ _ => ?_)
    | refine zPr.aI (fun _ => ?_)
    | refine zPr.aL (fun _ => ?_)
    | refine zPr.gd ?_
    | refine zPr.bnr (fun _ => ?_)
    | refine zPr.bnv (fun _ => ?_)
    | exact zPr.tail (S' := sX9_addNumber) (by assumption) (mX9_addNumber_42 _ (by first | assumption | exact ih | (intros; apply ih) | (intros; apply mX9_addNumber_3)) ..) (fun _ h => h)
    | exact zPr.tail (S' := sX9_addNumber) (by assumption) (mX9_addNumber_3 ..) (fun _ h => h)
def sX10_refuse (t : Bool × Bool × Bool) : List Nat := [37]
theorem mX10_refuse (p1 : Int32) (σ : zS) : zPr (sX10_refuse σ.2.2) σ Prod.snd (fX10_refuse p1 σ) := by
  unfold fX10_refuse
  have hc := zSm.rfl (sX10_refuse σ.2.2) σ
  repeat' first
    | exact zPr.none
    | exact zPr.some (by assumption)
    | refine zPr.ite ?_ ?_
    | refine zPr.wI (by assumption) (by simp only [sX10_refuse, List.mem_cons, List.not_mem_nil, or_false]; omega) (fun _ _ => ?_)
    | refine zPr.wL (by assumption) (by simp only [sX10_refuse, List.mem_cons, List.not_mem_nil, or_false]; omega) (fun _ _ => ?_)
    | refine zPr.bI (by assumption) (by simp only [sX10_refuse, List.mem_cons, List.not_mem_nil, or_false]; omega) (fun _ _ => ?_)
    | refine zPr.bL (by assumption) (by simp only [sX10_refuse, List.mem_cons, List.not_mem_nil, or_false]; omega) (fun _ _ => ?_)
    | refine zPr.wC (by assumption) (by simp only [sX10_refuse, List.mem_cons, List.not_mem_nil, or_false]; omega) (fun _ _ => ?_)
    | refine zPr.aI (fun _ => ?_)
    | refine zPr.aL (fun _ => ?_)
    | refine zPr.gd ?_
    | refine zPr.bnr (fun _ => ?_)
    | refine zPr.bnv (fun _ => ?_)
def sX10_feed (t : Bool × Bool × Bool) : List Nat := [2, 3, 37]
theorem mX10_feed (p1 : Int32) (p2 : Int32) (p3 : Int32) (p4 : Int32) (p5 : Int32) (σ : zS) : zPr (sX10_feed σ.2.2) σ Prod.snd (fX10_feed p1 p2 p3 p4 p5 σ) := by
  unfold fX10_feed
  have hc := zSm.rfl (sX10_feed σ.2.2) σ
  repeat' first
    | exact zPr.none
    | exact zPr.some (by assumption)
    | refine zPr.ite ?_ ?_
    | refine zPr.wI (by assumption) (by simp only [sX10_feed, List.mem_cons, List.not_mem_nil, or_false]; omega) (fun _ _ => ?_)
    | refine zPr.wL (by assumption) (by simp only [sX10_feed, List.mem_cons, List.not_mem_nil, or_false]; omega) (fun _ _ => ?_)
    | refine zPr.bI (by assumption) (by simp only [sX10_feed, List.mem_cons, List.not_mem_nil, or_false]; omega) (fun _ _ => ?_)
    | refine zPr.bL (by assumption) (by simp only [sX10_feed, List.mem_cons, List.not_mem_nil, or_false]; omega) (fun _ _ => ?_)
    | refine zPr.wC (by assumption) (by simp only [sX10_feed, List.mem_cons, List.not_mem_nil, or_false]; omega) (fun _ _ => ?_)
    | refine zPr.aI (fun _ => ?_)
    | refine zPr.aL (fun _ => ?_)
    | refine zPr.gd ?_
    | refine zPr.bc (S' := sX10_refuse) (by assumption) (mX10_refuse ..) (fun p hp => by simp only [sX10_refuse, sX10_feed, List.mem_cons, List.not_mem_nil, or_false] at hp ⊢ <;> omega) (fun _ _ _ => ?_)
    | refine zPr.bw (S' := sX9_addNumber) (by assumption) (mX9_addNumber ..) (fun p hp => by simp only [sX9_addNumber, sX10_feed, List.mem_cons, List.not_mem_nil, or_false] at hp ⊢ <;> omega) (fun _ _ => ?_)
    | refine zPr.bnr (fun _ => ?_)
    | refine zPr.bnv (fun _ => ?_)
def sX10_end (t : Bool × Bool × Bool) : List Nat := [2, 37]
theorem mX10_end_15 (σ : zS) : zPr (sX10_end σ.2.2) σ Prod.snd (fX10_end_15 σ) := by
  unfold fX10_end_15
  have hc := zSm.rfl (sX10_end σ.2.2) σ
  repeat' first
    | exact zPr.none
    | exact zPr.some (by assumption)
    | refine zPr.ite ?_ ?_
    | refine zPr.wI (by assumption) (by simp only [sX10_end, List.mem_cons, List.not_mem_nil, or_false]; omega) (fun _ _ => ?_)
    | refine zPr.wL (by assumption) (by simp only [sX10_end, List.mem_cons, List.not_mem_nil, or_false]; omega) (fun _ _ => ?_)
    | refine zPr.bI (by assumption) (by simp only [sX10_end, List.mem_cons, List.not_mem_nil, or_false]; omega) (fun _ _ => ?_)
    | refine zPr.bL (by assumption) (by simp only [sX10_end, List.mem_cons, List.not_mem_nil, or_false]; omega) (fun _ _ => ?_)
    | refine zPr.wC (by assumption) (by simp only [sX10_end, List.mem_cons, List.not_mem_nil, or_false]; omega) (fun _ _ => ?_)
    | refine zPr.aI (fun _ => ?_)
    | refine zPr.aL (fun _ => ?_)
    | refine zPr.gd ?_
    | refine zPr.bc (S' := sX10_refuse) (by assumption) (mX10_refuse ..) (fun p hp => by simp only [sX10_refuse, sX10_end, List.mem_cons, List.not_mem_nil, or_false] at hp ⊢ <;> omega) (fun _ _ _ => ?_)
    | refine zPr.bnr (fun _ => ?_)
    | refine zPr.bnv (fun _ => ?_)
theorem mX10_end (p1 : Int32) (σ : zS) : zPr (sX10_end σ.2.2) σ Prod.snd (fX10_end p1 σ) := by
  unfold fX10_end
  have hc := zSm.rfl (sX10_end σ.2.2) σ
  repeat' first
    | exact zPr.none
    | exact zPr.some (by assumption)
    | refine zPr.ite ?_ ?_
    | refine zPr.wI (by assumption) (by simp only [sX10_end, List.mem_cons, List.not_mem_nil, or_false]; omega) (fun _ _ => ?_)
    | refine zPr.wL (by assumption) (by simp only [sX10_end, List.mem_cons, List.not_mem_nil, or_false]; omega) (fun _ _ => ?_)
    | refine zPr.bI (by assumption) (by simp only [sX10_end, List.mem_cons, List.not_mem_nil, or_false]; omega) (fun _ _ => ?_)
    | refine zPr.bL (by assumption) (by simp only [sX10_end, List.mem_cons, List.not_mem_nil, or_false]; omega) (fun _ _ => ?_)
    | refine zPr.wC (by assumption) (by simp only [sX10_end, List.mem_cons, List.not_mem_nil, or_false]; omega) (fun _ _ => ?_)
    | refine zPr.aI (fun _ => ?_)
    | refine zPr.aL (fun _ => ?_)
    | refine zPr.gd ?_
    | refine zPr.bc (S' := sX10_refuse) (by assumption) (mX10_refuse ..) (fun p hp => by simp only [sX10_refuse, sX10_end, List.mem_cons, List.not_mem_nil, or_false] at hp ⊢ <;> omega) (fun _ _ _ => ?_)
    | refine zPr.bnr (fun _ => ?_)
    | refine zPr.bnv (fun _ => ?_)
    | exact zPr.tail (S' := sX10_end) (by assumption) (mX10_end_15 ..) (fun _ h => h)
def sJ7_fill_53178 (a0 : Nat) (t : Bool × Bool × Bool) : List Nat := [a0]
theorem mJ7_fill_53178_5 (a0 : Nat) (n0 : Nat) : ∀ (fuel : Nat) (x1 : Int32) (x2 : Int32) (x3 : Int32) (σ : zS), zPr (sJ7_fill_53178 a0 σ.2.2) σ id (fJ7_fill_53178_5 a0 n0 fuel x1 x2 x3 σ) := by
  intro fuel
  induction fuel with
  | zero => intro x1 x2 x3 σ; exact zPr.none
  | succ f ih =>
    intro x1 x2 x3 σ
    rw [fJ7_fill_53178_5]
    have hc := zSm.rfl (sJ7_fill_53178 a0 σ.2.2) σ
    repeat' first
      | exact zPr.none
      | exact zPr.some (by assumption)
      | refine zPr.ite ?_ ?_
      | refine zPr.wI (by assumption) (by simp only [sJ7_fill_53178, List.mem_cons, List.not_mem_nil, or_false]; omega) (fun _ _ => ?_)
      | refine zPr.wL (by assumption) (by simp only [sJ7_fill_53178, List.mem_cons, List.not_mem_nil, or_false]; omega) (fun _ _ => ?_)
      | refine zPr.bI (by assumption) (by simp only [sJ7_fill_53178, List.mem_cons, List.not_mem_nil, or_false]; omega) (fun _ _ => ?_)
      | refine zPr.bL (by assumption) (by simp only [sJ7_fill_53178, List.mem_cons, List.not_mem_nil, or_false]; omega) (fun _ _ => ?_)
      | refine zPr.wC (by assumption) (by simp only [sJ7_fill_53178, List.mem_cons, List.not_mem_nil, or_false]; omega) (fun _ _ => ?_)
      | refine zPr.aI (fun _ => ?_)
      | refine zPr.aL (fun _ => ?_)
      | refine zPr.gd ?_
      | refine zPr.bnr (fun _ => ?_)
      | refine zPr.bnv (fun _ => ?_)
      | exact zPr.tail (S' := sJ7_fill_53178 a0) (by assumption) (ih ..) (fun _ h => h)
theorem mJ7_fill_53178 (a0 : Nat) (n0 : Nat) (p1 : Int32) (σ : zS) : zPr (sJ7_fill_53178 a0 σ.2.2) σ id (fJ7_fill_53178 a0 n0 p1 σ) := by
  unfold fJ7_fill_53178
  have hc := zSm.rfl (sJ7_fill_53178 a0 σ.2.2) σ
  repeat' first
    | exact zPr.none
    | exact zPr.some (by assumption)
    | refine zPr.ite ?_ ?_
    | refine zPr.wI (by assumption) (by simp only [sJ7_fill_53178, List.mem_cons, List.not_mem_nil, or_false]; omega) (fun _ _ => ?_)
    | refine zPr.wL (by assumption) (by simp only [sJ7_fill_53178, List.mem_cons, List.not_mem_nil, or_false]; omega) (fun _ _ => ?_)
    | refine zPr.bI (by assumption) (by simp only [sJ7_fill_53178, List.mem_cons, List.not_mem_nil, or_false]; omega) (fun _ _ => ?_)
    | refine zPr.bL (by assumption) (by simp only [sJ7_fill_53178, List.mem_cons, List.not_mem_nil, or_false]; omega) (fun _ _ => ?_)
    | refine zPr.wC (by assumption) (by simp only [sJ7_fill_53178, List.mem_cons, List.not_mem_nil, or_false]; omega) (fun _ _ => ?_)
    | refine zPr.aI (fun _ => ?_)
    | refine zPr.aL (fun _ => ?_)
    | refine zPr.gd ?_
    | refine zPr.bnr (fun _ => ?_)
    | refine zPr.bnv (fun _ => ?_)
    | exact zPr.tail (S' := sJ7_fill_53178 a0) (by assumption) (mJ7_fill_53178_5 _ _ ..) (fun _ h => h)
def sX8_clear (b0 : Bool) (t : Bool × Bool × Bool) : List Nat := [rp b0 + 11, rp b0 + 14, rp b0 + 15]
theorem mX8_clear (b0 : Bool) (σ : zS) : zPr (sX8_clear b0 σ.2.2) σ id (fX8_clear b0 σ) := by
  unfold fX8_clear
  have hc := zSm.rfl (sX8_clear b0 σ.2.2) σ
  repeat' first
    | exact zPr.none
    | exact zPr.some (by assumption)
    | refine zPr.ite ?_ ?_
    | refine zPr.wI (by assumption) (by simp only [sX8_clear, List.mem_cons, List.not_mem_nil, or_false]; omega) (fun _ _ => ?_)
    | refine zPr.wL (by assumption) (by simp only [sX8_clear, List.mem_cons, List.not_mem_nil, or_false]; omega) (fun _ _ => ?_)
    | refine zPr.bI (by assumption) (by simp only [sX8_clear, List.mem_cons, List.not_mem_nil, or_false]; omega) (fun _ _ => ?_)
    | refine zPr.bL (by assumption) (by simp only [sX8_clear, List.mem_cons, List.not_mem_nil, or_false]; omega) (fun _ _ => ?_)
    | refine zPr.wC (by assumption) (by simp only [sX8_clear, List.mem_cons, List.not_mem_nil, or_false]; omega) (fun _ _ => ?_)
    | refine zPr.aI (fun _ => ?_)
    | refine zPr.aL (fun _ => ?_)
    | refine zPr.gd ?_
    | refine zPr.bw (S' := sJ7_fill_53178 _) (by assumption) (mJ7_fill_53178 ..) (fun p hp => by simp only [sJ7_fill_53178, sX8_clear, List.mem_cons, List.not_mem_nil, or_false] at hp ⊢ <;> omega) (fun _ _ => ?_)
    | refine zPr.bnr (fun _ => ?_)
    | refine zPr.bnv (fun _ => ?_)
def sX6_clear (b0 : Bool) (t : Bool × Bool × Bool) : List Nat := [rp b0 + 0, rp b0 + 10, rp b0 + 11, rp b0 + 14, rp b0 + 15, rp b0 + 3, rp b0 + 9]
theorem mX6_clear (b0 : Bool) (σ : zS) : zPr (sX6_clear b0 σ.2.2) σ id (fX6_clear b0 σ) := by
  unfold fX6_clear
  have hc := zSm.rfl (sX6_clear b0 σ.2.2) σ
  repeat' first
    | exact zPr.none
    | exact zPr.some (by assumption)
    | refine zPr.ite ?_ ?_
    | refine zPr.wI (by assumption) (by simp only [sX6_clear, List.mem_cons, List.not_mem_nil, or_false]; omega) (fun _ _ => ?_)
    | refine zPr.wL (by assumption) (by simp only [sX6_clear, List.mem_cons, List.not_mem_nil, or_false]; omega) (fun _ _ => ?_)
    | refine zPr.bI (by assumption) (by simp only [sX6_clear, List.mem_cons, List.not_mem_nil, or_false]; omega) (fun _ _ => ?_)
    | refine zPr.bL (by assumption) (by simp only [sX6_clear, List.mem_cons, List.not_mem_nil, or_false]; omega) (fun _ _ => ?_)
    | refine zPr.wC (by assumption) (by simp only [sX6_clear, List.mem_cons, List.not_mem_nil, or_false]; omega) (fun _ _ => ?_)
    | refine zPr.aI (fun _ => ?_)
    | refine zPr.aL (fun _ => ?_)
    | refine zPr.gd ?_
    | refine zPr.bw (S' := sJ7_fill_53178 _) (by assumption) (mJ7_fill_53178 ..) (fun p hp => by simp only [sJ7_fill_53178, sX6_clear, List.mem_cons, List.not_mem_nil, or_false] at hp ⊢ <;> omega) (fun _ _ => ?_)
    | refine zPr.bw (S' := sX8_clear _) (by assumption) (mX8_clear ..) (fun p hp => by simp only [sX8_clear, sX6_clear, List.mem_cons, List.not_mem_nil, or_false] at hp ⊢ <;> omega) (fun _ _ => ?_)
    | refine zPr.bnr (fun _ => ?_)
    | refine zPr.bnv (fun _ => ?_)
def sX5_skipBlanks (t : Bool × Bool × Bool) : List Nat := [54]
theorem mX5_skipBlanks_46 (r0 : zS → Option zS) (hr0 : ∀ (σ : zS), zPr (sX5_skipBlanks σ.2.2) σ id (r0 σ)) (σ : zS) : zPr (sX5_skipBlanks σ.2.2) σ id (fX5_skipBlanks_46 r0 σ) := by
  unfold fX5_skipBlanks_46
  have hc := zSm.rfl (sX5_skipBlanks σ.2.2) σ
  repeat' first
    | exact zPr.none
    | exact zPr.some (by assumption)
    | refine zPr.ite ?_ ?_
    | refine zPr.wI (by assumption) (by simp only [sX5_skipBlanks, List.mem_cons, List.not_mem_nil, or_false]; omega) (fun _ _ => ?_)
    | refine zPr.wL (by assumption) (by simp only [sX5_skipBlanks, List.mem_cons, List.not_mem_nil, or_false]; omega) (fun _ _ => ?_)
    | refine zPr.bI (by assumption) (by simp only [sX5_skipBlanks, List.mem_cons, List.not_mem_nil, or_false]; omega) (fun _ _ => ?_)
    | refine zPr.bL (by assumption) (by simp only [sX5_skipBlanks, List.mem_cons, List.not_mem_nil, or_false]; omega) (fun _ _ => ?_)
    | refine zPr.wC (by assumption) (by simp only [sX5_skipBlanks, List.mem_cons, List.not_mem_nil, or_false]; omega) (fun _ _ => ?_)
    | refine zPr.aI (fun _ => ?_)
    | refine zPr.aL (fun _ => ?_)
    | refine zPr.gd ?_
    | refine zPr.bnr (fun _ => ?_)
    | refine zPr.bnv (fun _ => ?_)
    | exact zPr.tail (S' := sX5_skipBlanks) (by assumption) (hr0 ..) (fun _ h => h)
theorem mX5_skipBlanks_0 : ∀ (fuel : Nat) (σ : zS), zPr (sX5_skipBlanks σ.2.2) σ id (fX5_skipBlanks_0 fuel σ) := by
  intro fuel
  induction fuel with
  | zero => intro σ; exact zPr.none
  | succ f ih =>
    intro σ
    rw [fX5_skipBlanks_0]
    have hc := zSm.rfl (sX5_skipBlanks σ.2.2) σ
    repeat' first
      | exact zPr.none
      | exact zPr.some (by assumption)
      | refine zPr.ite ?_ ?_
      | refine zPr.wI (by assumption) (by simp only [sX5_skipBlanks, List.mem_cons, List.not_mem_nil, or_false]; omega) (fun _ _ => ?_)
      | refine zPr.wL (by assumption) (by simp only [sX5_skipBlanks, List.mem_cons, List.not_mem_nil, or_false]; omega) (fun _ _ => ?_)
      | refine zPr.bI (by assumption) (by simp only [sX5_skipBlanks, List.mem_cons, List.not_mem_nil, or_false]; omega) (fun _ _ => ?_)
      | refine zPr.bL (by assumption) (by simp only [sX5_skipBlanks, List.mem_cons, List.not_mem_nil, or_false]; omega) (fun _ _ => ?_)
      | refine zPr.wC (by assumption) (by simp only [sX5_skipBlanks, List.mem_cons, List.not_mem_nil, or_false]; omega) (fun _ _ => ?_)
      | refine zPr.aI (fun _ => ?_)
      | refine zPr.aL (fun _ => ?_)
      | refine zPr.gd ?_
      | refine zPr.bnr (fun _ => ?_)
      | refine zPr.bnv (fun _ => ?_)
      | exact zPr.tail (S' := sX5_skipBlanks) (by assumption) (ih ..) (fun _ h => h)
      | exact zPr.tail (S' := sX5_skipBlanks) (by assumption) (mX5_skipBlanks_46 _ (by first | assumption | exact ih | (intros; apply ih) | (intros; apply mX5_skipBlanks_0)) ..) (fun _ h => h)
theorem mX5_skipBlanks (σ : zS) : zPr (sX5_skipBlanks σ.2.2) σ id (fX5_skipBlanks σ) := by
  unfold fX5_skipBlanks
  have hc := zSm.rfl (sX5_skipBlanks σ.2.2) σ
  repeat' first
    | exact zPr.none
    | exact zPr.some (by assumption)
    | refine zPr.ite ?_ ?_
    | refine zPr.wI (by assumption) (by simp only [sX5_skipBlanks, List.mem_cons, List.not_mem_nil, or_false]; omega) (fun _ _ => ?_)
    | refine zPr.wL (by assumption) (by simp only [sX5_skipBlanks, List.mem_cons, List.not_mem_nil, or_false]; omega) (fun _ _ => ?_)
    | refine zPr.bI (by assumption) (by simp only [sX5_skipBlanks, List.mem_cons, List.not_mem_nil, or_false]; omega) (fun _ _ => ?_)
    | refine zPr.bL (by assumption) (by simp only [sX5_skipBlanks, List.mem_cons, List.not_mem_nil, or_false]; omega) (fun _ _ => ?_)
    | refine zPr.wC (by assumption) (by simp only [sX5_skipBlanks, List.mem_cons, List.not_mem_nil, or_false]; omega) (fun _ _ => ?_)
    | refine zPr.aI (fun _ => ?_)
    | refine zPr.aL (fun _ => ?_)
    | refine zPr.gd ?_
    | refine zPr.bnr (fun _ => ?_)
    | refine zPr.bnv (fun _ => ?_)
    | exact zPr.tail (S' := sX5_skipBlanks) (by assumption) (mX5_skipBlanks_46 _ (by first | assumption | exact ih | (intros; apply ih) | (intros; apply mX5_skipBlanks_0)) ..) (fun _ h => h)
    | exact zPr.tail (S' := sX5_skipBlanks) (by assumption) (mX5_skipBlanks_0 ..) (fun _ h => h)
def sX5_fail (t : Bool × Bool × Bool) : List Nat := [54]
theorem mX5_fail_17 (σ : zS) : zPr (sX5_fail σ.2.2) σ id (fX5_fail_17 σ) := by
  unfold fX5_fail_17
  have hc := zSm.rfl (sX5_fail σ.2.2) σ
  repeat' first
    | exact zPr.none
    | exact zPr.some (by assumption)
    | refine zPr.ite ?_ ?_
    | refine zPr.wI (by assumption) (by simp only [sX5_fail, List.mem_cons, List.not_mem_nil, or_false]; omega) (fun _ _ => ?_)
    | refine zPr.wL (by assumption) (by simp only [sX5_fail, List.mem_cons, List.not_mem_nil, or_false]; omega) (fun _ _ => ?_)
    | refine zPr.bI (by assumption) (by simp only [sX5_fail, List.mem_cons, List.not_mem_nil, or_false]; omega) (fun _ _ => ?_)
    | refine zPr.bL (by assumption) (by simp only [sX5_fail, List.mem_cons, List.not_mem_nil, or_false]; omega) (fun _ _ => ?_)
    | refine zPr.wC (by assumption) (by simp only [sX5_fail, List.mem_cons, List.not_mem_nil, or_false]; omega) (fun _ _ => ?_)
    | refine zPr.aI (fun _ => ?_)
    | refine zPr.aL (fun _ => ?_)
    | refine zPr.gd ?_
    | refine zPr.bnr (fun _ => ?_)
    | refine zPr.bnv (fun _ => ?_)
theorem mX5_fail (p1 : Int32) (p2 : Int32) (σ : zS) : zPr (sX5_fail σ.2.2) σ id (fX5_fail p1 p2 σ) := by
  unfold fX5_fail
  have hc := zSm.rfl (sX5_fail σ.2.2) σ
  repeat' first
    | exact zPr.none
    | exact zPr.some (by assumption)
    | refine zPr.ite ?_ ?_
    | refine zPr.wI (by assumption) (by simp only [sX5_fail, List.mem_cons, List.not_mem_nil, or_false]; omega) (fun _ _ => ?_)
    | refine zPr.wL (by assumption) (by simp only [sX5_fail, List.mem_cons, List.not_mem_nil, or_false]; omega) (fun _ _ => ?_)
    | refine zPr.bI (by assumption) (by simp only [sX5_fail, List.mem_cons, List.not_mem_nil, or_false]; omega) (fun _ _ => ?_)
    | refine zPr.bL (by assumption) (by simp only [sX5_fail, List.mem_cons, List.not_mem_nil, or_false]; omega) (fun _ _ => ?_)
    | refine zPr.wC (by assumption) (by simp only [sX5_fail, List.mem_cons, List.not_mem_nil, or_false]; omega) (fun _ _ => ?_)
    | refine zPr.aI (fun _ => ?_)
    | refine zPr.aL (fun _ => ?_)
    | refine zPr.gd ?_
    | refine zPr.bnr (fun _ => ?_)
    | refine zPr.bnv (fun _ => ?_)
    | exact zPr.tail (S' := sX5_fail) (by assumption) (mX5_fail_17 ..) (fun _ h => h)
def sX5_scanSign (t : Bool × Bool × Bool) : List Nat := [54]
theorem mX5_scanSign (σ : zS) : zPr (sX5_scanSign σ.2.2) σ id (fX5_scanSign σ) := by
  unfold fX5_scanSign
  have hc := zSm.rfl (sX5_scanSign σ.2.2) σ
  repeat' first
    | exact zPr.none
    | exact zPr.some (by assumption)
    | refine zPr.ite ?_ ?_
    | refine zPr.wI (by assumption) (by simp only [sX5_scanSign, List.mem_cons, List.not_mem_nil, or_false]; omega) (fun _ _ => ?_)
    | refine zPr.wL (by assumption) (by simp only [sX5_scanSign, List.mem_cons, List.not_mem_nil, or_false]; omega) (fun _ _ => ?_)
    | refine zPr.bI (by assumption) (by simp only [sX5_scanSign, List.mem_cons, List.not_mem_nil, or_false]; omega) (fun _ _ => ?_)
    | refine zPr.bL (by assumption) (by simp only [sX5_scanSign, List.mem_cons, List.not_mem_nil, or_false]; omega) (fun _ _ => ?_)
    | refine zPr.wC (by assumption) (by simp only [sX5_scanSign, List.mem_cons, List.not_mem_nil, or_false]; omega) (fun _ _ => ?_)
    | refine zPr.aI (fun _ => ?_)
    | refine zPr.aL (fun _ => ?_)
    | refine zPr.gd ?_
    | refine zPr.bw (S' := sX5_fail) (by assumption) (mX5_fail ..) (fun p hp => by simp only [sX5_fail, sX5_scanSign, List.mem_cons, List.not_mem_nil, or_false] at hp ⊢ <;> omega) (fun _ _ => ?_)
    | refine zPr.bnr (fun _ => ?_)
    | refine zPr.bnv (fun _ => ?_)
def sX5_scanNumber (t : Bool × Bool × Bool) : List Nat := [54]
theorem mX5_scanNumber_10 : ∀ (fuel : Nat) (σ : zS), zPr (sX5_scanNumber σ.2.2) σ id (fX5_scanNumber_10 fuel σ) := by
  intro fuel
  induction fuel with
  | zero => intro σ; exact zPr.none
  | succ f ih =>
    intro σ
    rw [fX5_scanNumber_10]
    have hc := zSm.rfl (sX5_scanNumber σ.2.2) σ
    repeat' first
      | exact zPr.none
      | exact zPr.some (by assumption)
      | refine zPr.ite ?_ ?_
      | refine zPr.wI (by assumption) (by simp only [sX5_scanNumber, List.mem_cons, List.not_mem_nil, or_false]; omega) (fun _ _ => ?_)
      | refine zPr.wL (by assumption) (by simp only [sX5_scanNumber, List.mem_cons, List.not_mem_nil, or_false]; omega) (fun _ _ => ?_)
      | refine zPr.bI (by assumption) (by simp only [sX5_scanNumber, List.mem_cons, List.not_mem_nil, or_false]; omega) (fun _ _ => ?_)
      | refine zPr.bL (by assumption) (by simp only [sX5_scanNumber, List.mem_cons, List.not_mem_nil, or_false]; omega) (fun _ _ => ?_)
      | refine zPr.wC (by assumption) (by simp only [sX5_scanNumber, List.mem_cons, List.not_mem_nil, or_false]; omega) (fun _ _ => ?_)
      | refine zPr.aI (fun _ => ?_)
      | refine zPr.aL (fun _ => ?_)
      | refine zPr.gd ?_
      | refine zPr.bw (S' := sX5_fail) (by assumption) (mX5_fail ..) (fun p hp => by simp only [sX5_fail, sX5_scanNumber, List.mem_cons, List.not_mem_nil, or_false] at hp ⊢ <;> omega) (fun _ _ => ?_)
      | refine zPr.bnr (fun _ => ?_)
      | refine zPr.bnv (fun _ => ?_)
      | exact zPr.tail (S' := sX5_scanNumber) (by assumption) (ih ..) (fun _ h => h)
theorem mX5_scanNumber (σ : zS) : zPr (sX5_scanNumber σ.2.2) σ id (fX5_scanNumber σ) := by
  unfold fX5_scanNumber
  have hc := zSm.rfl (sX5_scanNumber σ.2.2) σ
  repeat' first
    | exact zPr.none
    | exact zPr.some (by assumption)
    | refine zPr.ite ?_ ?_
    | refine zPr.wI (by assumption) (by simp only [sX5_scanNumber, List.mem_cons, List.not_mem_nil, or_false]; omega) (fun _ _ => ?_)
    | refine zPr.wL (by assumption) (by simp only [sX5_scanNumber, List.mem_cons, List.not_mem_nil, or_false]; omega) (fun _ _ => ?_)
    | refine zPr.bI (by assumption) (by simp only [sX5_scanNumber, List.mem_cons, List.not_mem_nil, or_false]; omega) (fun _ _ => ?_)
    | refine zPr.bL (by assumption) (by simp only [sX5_scanNumber, List.mem_cons, List.not_mem_nil, or_false]; omega) (fun _ _ => ?_)
    | refine zPr.wC (by assumption) (by simp only [sX5_scanNumber, List.mem_cons, List.not_mem_nil, or_false]; omega) (fun _ _ => ?_)
    | refine zPr.aI (fun _ => ?_)
    | refine zPr.aL (fun _ => ?_)
    | refine zPr.gd ?_
    | refine zPr.bw (S' := sX5_fail) (by assumption) (mX5_fail ..) (fun p hp => by simp only [sX5_fail, sX5_scanNumber, List.mem_cons, List.not_mem_nil, or_false] at hp ⊢ <;> omega) (fun _ _ => ?_)
    | refine zPr.bnr (fun _ => ?_)
    | refine zPr.bnv (fun _ => ?_)
    | exact zPr.tail (S' := sX5_scanNumber) (by assumption) (mX5_scanNumber_10 ..) (fun _ h => h)
def sX5_scanWord (t : Bool × Bool × Bool) : List Nat := [54]
theorem mX5_scanWord_109 (σ : zS) : zPr (sX5_scanWord σ.2.2) σ id (fX5_scanWord_109 σ) := by
  unfold fX5_scanWord_109
  have hc := zSm.rfl (sX5_scanWord σ.2.2) σ
  repeat' first
    | exact zPr.none
    | exact zPr.some (by assumption)
    | refine zPr.ite ?_ ?_
    | refine zPr.wI (by assumption) (by simp only [sX5_scanWord, List.mem_cons, List.not_mem_nil, or_false]; omega) (fun _ _ => ?_)
    | refine zPr.wL (by assumption) (by simp only [sX5_scanWord, List.mem_cons, List.not_mem_nil, or_false]; omega) (fun _ _ => ?_)
    | refine zPr.bI (by assumption) (by simp only [sX5_scanWord, List.mem_cons, List.not_mem_nil, or_false]; omega) (fun _ _ => ?_)
    | refine zPr.bL (by assumption) (by simp only [sX5_scanWord, List.mem_cons, List.not_mem_nil, or_false]; omega) (fun _ _ => ?_)
    | refine zPr.wC (by assumption) (by simp only [sX5_scanWord, List.mem_cons, List.not_mem_nil, or_false]; omega) (fun _ _ => ?_)
    | refine zPr.aI (fun _ => ?_)
    | refine zPr.aL (fun _ => ?_)
    | refine zPr.gd ?_
    | refine zPr.bw (S' := sX5_fail) (by assumption) (mX5_fail ..) (fun p hp => by simp only [sX5_fail, sX5_scanWord, List.mem_cons, List.not_mem_nil, or_false] at hp ⊢ <;> omega) (fun _ _ => ?_)
    | refine zPr.bnr (fun _ => ?_)
    | refine zPr.bnv (fun _ => ?_)
theorem mX5_scanWord_10 : ∀ (fuel : Nat) (σ : zS), zPr (sX5_scanWord σ.2.2) σ id (fX5_scanWord_10 fuel σ) := by
  intro fuel
  induction fuel with
  | zero => intro σ; exact zPr.none
  | succ f ih =>
    intro σ
    rw [fX5_scanWord_10]
    have hc := zSm.rfl (sX5_scanWord σ.2.2) σ
    repeat' first
      | exact zPr.none
      | exact zPr.some (by assumption)
      | refine zPr.ite ?_ ?_
      | refine zPr.wI (by assumption) (by simp only [sX5_scanWord, List.mem_cons, List.not_mem_nil, or_false]; omega) (fun _ _ => ?_)
      | refine zPr.wL (by assumption) (by simp only [sX5_scanWord, List.mem_cons, List.not_mem_nil, or_false]; omega) (fun _ _ => ?_)
      | refine zPr.bI (by assumption) (by simp only [sX5_scanWord, List.mem_cons, List.not_mem_nil, or_false]; omega) (fun _ _ => ?_)
      | refine zPr.bL (by assumption) (by simp only [sX5_scanWord, List.mem_cons, List.not_mem_nil, or_false]; omega) (fun _ _ => ?_)
      | refine zPr.wC (by assumption) (by simp only [sX5_scanWord, List.mem_cons, List.not_mem_nil, or_false]; omega) (fun _ _ => ?_)
      | refine zPr.aI (fun _ => ?_)
      | refine zPr.aL (fun _ => ?_)
      | refine zPr.gd ?_
      | refine zPr.bw (S' := sX5_fail) (by assumption) (mX5_fail ..) (fun p hp => by simp only [sX5_fail, sX5_scanWord, List.mem_cons, List.not_mem_nil, or_false] at hp ⊢ <;> omega) (fun _ _ => ?_)
      | refine zPr.bnr (fun _ => ?_)
      | refine zPr.bnv (fun _ => ?_)
      | exact zPr.tail (S' := sX5_scanWord) (by assumption) (ih ..) (fun _ h => h)
      | exact zPr.tail (S' := sX5_scanWord) (by assumption) (mX5_scanWord_109 ..) (fun _ h => h)
theorem mX5_scanWord (σ : zS) : zPr (sX5_scanWord σ.2.2) σ id (fX5_scanWord σ) := by
  unfold fX5_scanWord
  have hc := zSm.rfl (sX5_scanWord σ.2.2) σ
  repeat' first
    | exact zPr.none
    | exact zPr.some (by assumption)
    | refine zPr.ite ?_ ?_
    | refine zPr.wI (by assumption) (by simp only [sX5_scanWord, List.mem_cons, List.not_mem_nil, or_false]; omega) (fun _ _ => ?_)
    | refine zPr.wL (by assumption) (by simp only [sX5_scanWord, List.mem_cons, List.not_mem_nil, or_false]; omega) (fun _ _ => ?_)
    | refine zPr.bI (by assumption) (by simp only [sX5_scanWord, List.mem_cons, List.not_mem_nil, or_false]; omega) (fun _ _ => ?_)
    | refine zPr.bL (by assumption) (by simp only [sX5_scanWord, List.mem_cons, List.not_mem_nil, or_false]; omega) (fun _ _ => ?_)
    | refine zPr.wC (by assumption) (by simp only [sX5_scanWord, List.mem_cons, List.not_mem_nil, or_false]; omega) (fun _ _ => ?_)
    | refine zPr.aI (fun _ => ?_)
    | refine zPr.aL (fun _ => ?_)
    | refine zPr.gd ?_
    | refine zPr.bw (S' := sX5_fail) (by assumption) (mX5_fail ..) (fun p hp => by simp only [sX5_fail, sX5_scanWord, List.mem_cons, List.not_mem_nil, or_false] at hp ⊢ <;> omega) (fun _ _ => ?_)
    | refine zPr.bnr (fun _ => ?_)
    | refine zPr.bnv (fun _ => ?_)
    | exact zPr.tail (S' := sX5_scanWord) (by assumption) (mX5_scanWord_109 ..) (fun _ h => h)
    | exact zPr.tail (S' := sX5_scanWord) (by assumption) (mX5_scanWord_10 ..) (fun _ h => h)
def sX5_advance (t : Bool × Bool × Bool) : List Nat := [54]
theorem mX5_advance_165 (σ : zS) : zPr (sX5_advance σ.2.2) σ id (fX5_advance_165 σ) := by
  unfold fX5_advance_165
  have hc := zSm.rfl (sX5_advance σ.2.2) σ
  repeat' first
    | exact zPr.none
    | exact zPr.some (by assumption)
    | refine zPr.ite ?_ ?_
    | refine zPr.wI (by assumption) (by simp only [sX5_advance, List.mem_cons, List.not_mem_nil, or_false]; omega) (fun _ _ => ?_)
    | refine zPr.wL (by assumption) (by simp only [sX5_advance, List.mem_cons, List.not_mem_nil, or_false]; omega) (fun _ _ => ?_)
    | refine zPr.bI (by assumption) (by simp only [sX5_advance, List.mem_cons, List.not_mem_nil, or_false]; omega) (fun _ _ => ?_)
    | refine zPr.bL (by assumption) (by simp only [sX5_advance, List.mem_cons, List.not_mem_nil, or_false]; omega) (fun _ _ => ?_)
    | refine zPr.wC (by assumption) (by simp only [sX5_advance, List.mem_cons, List.not_mem_nil, or_false]; omega) (fun _ _ => ?_)
    | refine zPr.aI (fun _ => ?_)
    | refine zPr.aL (fun _ => ?_)
    | refine zPr.gd ?_
    | refine zPr.bw (S' := sX5_fail) (by assumption) (mX5_fail ..) (fun p hp => by simp only [sX5_fail, sX5_advance, List.mem_cons, List.not_mem_nil, or_false] at hp ⊢ <;> omega) (fun _ _ => ?_)
    | refine zPr.bw (S' := sX5_scanNumber) (by assumption) (mX5_scanNumber ..) (fun p hp => by simp only [sX5_scanNumber, sX5_advance, List.mem_cons, List.not_mem_nil, or_false] at hp ⊢ <;> omega) (fun _ _ => ?_)
    | refine zPr.bw (S' := sX5_scanSign) (by assumption) (mX5_scanSign ..) (fun p hp => by simp only [sX5_scanSign, sX5_advance, List.mem_cons, List.not_mem_nil, or_false] at hp ⊢ <;> omega) (fun _ _ => ?_)
    | refine zPr.bw (S' := sX5_scanWord) (by assumption) (mX5_scanWord ..) (fun p hp => by simp only [sX5_scanWord, sX5_advance, List.mem_cons, List.not_mem_nil, or_false] at hp ⊢ <;> omega) (fun _ _ => ?_)
    | refine zPr.bw (S' := sX5_skipBlanks) (by assumption) (mX5_skipBlanks ..) (fun p hp => by simp only [sX5_skipBlanks, sX5_advance, List.mem_cons, List.not_mem_nil, or_false] at hp ⊢ <;> omega) (fun _ _ => ?_)
    | refine zPr.bnr (fun _ => ?_)
    | refine zPr.bnv (fun _ => ?_)
theorem mX5_advance_145 (x1 : Int32) (σ : zS) : zPr (sX5_advance σ.2.2) σ id (fX5_advance_145 x1 σ) := by
  unfold fX5_advance_145
  have hc := zSm.rfl (sX5_advance σ.2.2) σ
  repeat' first
    | exact zPr.none
    | exact zPr.some (by assumption)
    | refine zPr.ite ?_ ?_
    | refine zPr.wI (by assumption) (by simp only [sX5_advance, List.mem_cons, List.not_mem_nil, or_false]; omega) (fun _ _ => ?_)
    | refine zPr.wL (by assumption) (by simp only [sX5_advance, List.mem_cons, List.not_mem_nil, or_false]; omega) (fun _ _ => ?_)
    | refine zPr.bI (by assumption) (by simp only [sX5_advance, List.mem_cons, List.not_mem_nil, or_false]; omega) (fun _ _ => ?_)
    | refine zPr.bL (by assumption) (by simp only [sX5_advance, List.mem_cons, List.not_mem_nil, or_false]; omega) (fun _ _ => ?_)
    | refine zPr.wC (by assumption) (by simp only [sX5_advance, List.mem_cons, List.not_mem_nil, or_false]; omega) (fun _ _ => ?_)
    | refine zPr.aI (fun _ => ?_)
    | refine zPr.aL (fun _ => ?_)
    | refine zPr.gd ?_
    | refine zPr.bw (S' := sX5_fail) (by assumption) (mX5_fail ..) (fun p hp => by simp only [sX5_fail, sX5_advance, List.mem_cons, List.not_mem_nil, or_false] at hp ⊢ <;> omega) (fun _ _ => ?_)
    | refine zPr.bw (S' := sX5_scanNumber) (by assumption) (mX5_scanNumber ..) (fun p hp => by simp only [sX5_scanNumber, sX5_advance, List.mem_cons, List.not_mem_nil, or_false] at hp ⊢ <;> omega) (fun _ _ => ?_)
    | refine zPr.bw (S' := sX5_scanSign) (by assumption) (mX5_scanSign ..) (fun p hp => by simp only [sX5_scanSign, sX5_advance, List.mem_cons, List.not_mem_nil, or_false] at hp ⊢ <;> omega) (fun _ _ => ?_)
    | refine zPr.bw (S' := sX5_scanWord) (by assumption) (mX5_scanWord ..) (fun p hp => by simp only [sX5_scanWord, sX5_advance, List.mem_cons, List.not_mem_nil, or_false] at hp ⊢ <;> omega) (fun _ _ => ?_)
    | refine zPr.bw (S' := sX5_skipBlanks) (by assumption) (mX5_skipBlanks ..) (fun p hp => by simp only [sX5_skipBlanks, sX5_advance, List.mem_cons, List.not_mem_nil, or_false] at hp ⊢ <;> omega) (fun _ _ => ?_)
    | refine zPr.bnr (fun _ => ?_)
    | refine zPr.bnv (fun _ => ?_)
    | exact zPr.tail (S' := sX5_advance) (by assumption) (mX5_advance_165 ..) (fun _ h => h)
theorem mX5_advance_57 (s0 : Int32) (σ : zS) : zPr (sX5_advance σ.2.2) σ id (fX5_advance_57 s0 σ) := by
  unfold fX5_advance_57
  have hc := zSm.rfl (sX5_advance σ.2.2) σ
  repeat' first
    | exact zPr.none
    | exact zPr.some (by assumption)
    | refine zPr.ite ?_ ?_
    | refine zPr.wI (by assumption) (by simp only [sX5_advance, List.mem_cons, List.not_mem_nil, or_false]; omega) (fun _ _ => ?_)
    | refine zPr.wL (by assumption) (by simp only [sX5_advance, List.mem_cons, List.not_mem_nil, or_false]; omega) (fun _ _ => ?_)
    | refine zPr.bI (by assumption) (by simp only [sX5_advance, List.mem_cons, List.not_mem_nil, or_false]; omega) (fun _ _ => ?_)
    | refine zPr.bL (by assumption) (by simp only [sX5_advance, List.mem_cons, List.not_mem_nil, or_false]; omega) (fun _ _ => ?_)
    | refine zPr.wC (by assumption) (by simp only [sX5_advance, List.mem_cons, List.not_mem_nil, or_false]; omega) (fun _ _ => ?_)
    | refine zPr.aI (fun _ => ?_)
    | refine zPr.aL (fun _ => ?_)
    | refine zPr.gd ?_
    | refine zPr.bw (S' := sX5_fail) (by assumption) (mX5_fail ..) (fun p hp => by simp only [sX5_fail, sX5_advance, List.mem_cons, List.not_mem_nil, or_false] at hp ⊢ <;> omega) (fun _ _ => ?_)
    | refine zPr.bw (S' := sX5_scanNumber) (by assumption) (mX5_scanNumber ..) (fun p hp => by simp only [sX5_scanNumber, sX5_advance, List.mem_cons, List.not_mem_nil, or_false] at hp ⊢ <;> omega) (fun _ _ => ?_)
    | refine zPr.bw (S' := sX5_scanSign) (by assumption) (mX5_scanSign ..) (fun p hp => by simp only [sX5_scanSign, sX5_advance, List.mem_cons, List.not_mem_nil, or_false] at hp ⊢ <;> omega) (fun _ _ => ?_)
    | refine zPr.bw (S' := sX5_scanWord) (by assumption) (mX5_scanWord ..) (fun p hp => by simp only [sX5_scanWord, sX5_advance, List.mem_cons, List.not_mem_nil, or_false] at hp ⊢ <;> omega) (fun _ _ => ?_)
    | refine zPr.bw (S' := sX5_skipBlanks) (by assumption) (mX5_skipBlanks ..) (fun p hp => by simp only [sX5_skipBlanks, sX5_advance, List.mem_cons, List.not_mem_nil, or_false] at hp ⊢ <;> omega) (fun _ _ => ?_)
    | refine zPr.bnr (fun _ => ?_)
    | refine zPr.bnv (fun _ => ?_)
    | exact zPr.tail (S' := sX5_advance) (by assumption) (mX5_advance_165 ..) (fun _ h => h)
    | exact zPr.tail (S' := sX5_advance) (by assumption) (mX5_advance_145 ..) (fun _ h => h)
theorem mX5_advance_56 (σ : zS) : zPr (sX5_advance σ.2.2) σ id (fX5_advance_56 σ) := by
  unfold fX5_advance_56
  have hc := zSm.rfl (sX5_advance σ.2.2) σ
  repeat' first
    | exact zPr.none
    | exact zPr.some (by assumption)
    | refine zPr.ite ?_ ?_
    | refine zPr.wI (by assumption) (by simp only [sX5_advance, List.mem_cons, List.not_mem_nil, or_false]; omega) (fun _ _ => ?_)
    | refine zPr.wL (by assumption) (by simp only [sX5_advance, List.mem_cons, List.not_mem_nil, or_false]; omega) (fun _ _ => ?_)
    | refine zPr.bI (by assumption) (by simp only [sX5_advance, List.mem_cons, List.not_mem_nil, or_false]; omega) (fun _ _ => ?_)
    | refine zPr.bL (by assumption) (by simp only [sX5_advance, List.mem_cons, List.not_mem_nil, or_false]; omega) (fun _ _ => ?_)
    | refine zPr.wC (by assumption) (by simp only [sX5_advance, List.mem_cons, List.not_mem_nil, or_false]; omega) (fun _ _ => ?_)
    | refine zPr.aI (fun _ => ?_)
    | refine zPr.aL (fun _ => ?_)
    | refine zPr.gd ?_
    | refine zPr.bw (S' := sX5_fail) (by assumption) (mX5_fail ..) (fun p hp => by simp only [sX5_fail, sX5_advance, List.mem_cons, List.not_mem_nil, or_false] at hp ⊢ <;> omega) (fun _ _ => ?_)
    | refine zPr.bw (S' := sX5_scanNumber) (by assumption) (mX5_scanNumber ..) (fun p hp => by simp only [sX5_scanNumber, sX5_advance, List.mem_cons, List.not_mem_nil, or_false] at hp ⊢ <;> omega) (fun _ _ => ?_)
    | refine zPr.bw (S' := sX5_scanSign) (by assumption) (mX5_scanSign ..) (fun p hp => by simp only [sX5_scanSign, sX5_advance, List.mem_cons, List.not_mem_nil, or_false] at hp ⊢ <;> omega) (fun _ _ => ?_)
    | refine zPr.bw (S' := sX5_scanWord) (by assumption) (mX5_scanWord ..) (fun p hp => by simp only [sX5_scanWord, sX5_advance, List.mem_cons, List.not_mem_nil, or_false] at hp ⊢ <;> omega) (fun _ _ => ?_)
    | refine zPr.bw (S' := sX5_skipBlanks) (by assumption) (mX5_skipBlanks ..) (fun p hp => by simp only [sX5_skipBlanks, sX5_advance, List.mem_cons, List.not_mem_nil, or_false] at hp ⊢ <;> omega) (fun _ _ => ?_)
    | refine zPr.bnr (fun _ => ?_)
    | refine zPr.bnv (fun _ => ?_)
    | exact zPr.tail (S' := sX5_advance) (by assumption) (mX5_advance_165 ..) (fun _ h => h)
    | exact zPr.tail (S' := sX5_advance) (by assumption) (mX5_advance_145 ..) (fun _ h => h)
    | exact zPr.tail (S' := sX5_advance) (by assumption) (mX5_advance_57 ..) (fun _ h => h)
theorem mX5_advance_30 (s0 : Int32) (σ : zS) : zPr (sX5_advance σ.2.2) σ id (fX5_advance_30 s0 σ) := by
  unfold fX5_advance_30
  have hc := zSm.rfl (sX5_advance σ.2.2) σ
  repeat' first
    | exact zPr.none
    | exact zPr.some (by assumption)
    | refine zPr.ite ?_ ?_
    | refine zPr.wI (by assumption) (by simp only [sX5_advance, List.mem_cons, List.not_mem_nil, or_false]; omega) (fun _ _ => ?_)
    | refine zPr.wL (by assumption) (by simp only [sX5_advance, List.mem_cons, List.not_mem_nil, or_false]; omega) (fun _ _ => ?_)
    | refine zPr.bI (by assumption) (by simp only [sX5_advance, List.mem_cons, List.not_mem_nil, or_false]; omega) (fun _ _ => ?_)
    | refine zPr.bL (by assumption) (by simp only [sX5_advance, List.mem_cons, List.not_mem_nil, or_false]; omega) (fun _ _ => ?_)
    | refine zPr.wC (by assumption) (by simp only [sX5_advance, List.mem_cons, List.not_mem_nil, or_false]; omega) (fun _ _ => ?_)
    | refine zPr.aI (fun _ => ?_)
    | refine zPr.aL (fun _ => ?_)
    | refine zPr.gd ?_
    | refine zPr.bw (S' := sX5_fail) (by assumption) (mX5_fail ..) (fun p hp => by simp only [sX5_fail, sX5_advance, List.mem_cons, List.not_mem_nil, or_false] at hp ⊢ <;> omega) (fun _ _ => ?_)
    | refine zPr.bw (S' := sX5_scanNumber) (by assumption) (mX5_scanNumber ..) (fun p hp => by simp only [sX5_scanNumber, sX5_advance, List.mem_cons, List.not_mem_nil, or_false] at hp ⊢ <;> omega) (fun _ _ => ?_)
    | refine zPr.bw (S' := sX5_scanSign) (by assumption) (mX5_scanSign ..) (fun p hp => by simp only [sX5_scanSign, sX5_advance, List.mem_cons, List.not_mem_nil, or_false] at hp ⊢ <;> omega) (fun _ _ => ?_)
    | refine zPr.bw (S' := sX5_scanWord) (by assumption) (mX5_scanWord ..) (fun p hp => by simp only [sX5_scanWord, sX5_advance, List.mem_cons, List.not_mem_nil, or_false] at hp ⊢ <;> omega) (fun _ _ => ?_)
    | refine zPr.bw (S' := sX5_skipBlanks) (by assumption) (mX5_skipBlanks ..) (fun p hp => by simp only [sX5_skipBlanks, sX5_advance, List.mem_cons, List.not_mem_nil, or_false] at hp ⊢ <;> omega) (fun _ _ => ?_)
    | refine zPr.bnr (fun _ => ?_)
    | refine zPr.bnv (fun _ => ?_)
    | exact zPr.tail (S' := sX5_advance) (by assumption) (mX5_advance_165 ..) (fun _ h => h)
    | exact zPr.tail (S' := sX5_advance) (by assumption) (mX5_advance_145 ..) (fun _ h => h)
    | exact zPr.tail (S' := sX5_advance) (by assumption) (mX5_advance_57 ..) (fun _ h => h)
    | exact zPr.tail (S' := sX5_advance) (by assumption) (mX5_advance_56 ..) (fun _ h => h)
theorem mX5_advance_25 (σ : zS) : zPr (sX5_advance σ.2.2) σ id (fX5_advance_25 σ) := by
  unfold fX5_advance_25
  have hc := zSm.rfl (sX5_advance σ.2.2) σ
  repeat' first
    | exact zPr.none
    | exact zPr.some (by assumption)
    | refine zPr.ite ?_ ?_
    | refine zPr.wI (by assumption) (by simp only [sX5_advance, List.mem_cons, List.not_mem_nil, or_false]; omega) (fun _ _ => ?_)
    | refine zPr.wL (by assumption) (by simp only [sX5_advance, List.mem_cons, List.not_mem_nil, or_false]; omega) (fun _ _ => ?_)
    | refine zPr.bI (by assumption) (by simp only [sX5_advance, List.mem_cons, List.not_mem_nil, or_false]; omega) (fun _ _ => ?_)
    | refine zPr.bL (by assumption) (by simp only [sX5_advance, List.mem_cons, List.not_mem_nil, or_false]; omega) (fun _ _ => ?_)
    | refine zPr.wC (by assumption) (by simp only [sX5_advance, List.mem_cons, List.not_mem_nil, or_false]; omega) (fun _ _ => ?_)
    | refine zPr.aI (fun _ => ?_)
    | refine zPr.aL (fun _ => ?_)
    | refine zPr.gd ?_
    | refine zPr.bw (S' := sX5_fail) (by assumption) (mX5_fail ..) (fun p hp => by simp only [sX5_fail, sX5_advance, List.mem_cons, List.not_mem_nil, or_false] at hp ⊢ <;> omega) (fun _ _ => ?_)
    | refine zPr.bw (S' := sX5_scanNumber) (by assumption) (mX5_scanNumber ..) (fun p hp => by simp only [sX5_scanNumber, sX5_advance, List.mem_cons, List.not_mem_nil, or_false] at hp ⊢ <;> omega) (fun _ _ => ?_)
    | refine zPr.bw (S' := sX5_scanSign) (by assumption) (mX5_scanSign ..) (fun p hp => by simp only [sX5_scanSign, sX5_advance, List.mem_cons, List.not_mem_nil, or_false] at hp ⊢ <;> omega) (fun _ _ => ?_)
    | refine zPr.bw (S' := sX5_scanWord) (by assumption) (mX5_scanWord ..) (fun p hp => by simp only [sX5_scanWord, sX5_advance, List.mem_cons, List.not_mem_nil, or_false] at hp ⊢ <;> omega) (fun _ _ => ?_)
    | refine zPr.bw (S' := sX5_skipBlanks) (by assumption) (mX5_skipBlanks ..) (fun p hp => by simp only [sX5_skipBlanks, sX5_advance, List.mem_cons, List.not_mem_nil, or_false] at hp ⊢ <;> omega) (fun _ _ => ?_)
    | refine zPr.bnr (fun _ => ?_)
    | refine zPr.bnv (fun _ => ?_)
    | exact zPr.tail (S' := sX5_advance) (by assumption) (mX5_advance_165 ..) (fun _ h => h)
    | exact zPr.tail (S' := sX5_advance) (by assumption) (mX5_advance_145 ..) (fun _ h => h)
    | exact zPr.tail (S' := sX5_advance) (by assumption) (mX5_advance_57 ..) (fun _ h => h)
    | exact zPr.tail (S' := sX5_advance) (by assumption) (mX5_advance_56 ..) (fun _ h => h)
    | exact zPr.tail (S' := sX5_advance) (by assumption) (mX5_advance_30 ..) (fun _ h => h)
theorem mX5_advance (σ : zS) : zPr (sX5_advance σ.2.2) σ id (fX5_advance σ) := by
  unfold fX5_advance
  have hc := zSm.rfl (sX5_advance σ.2.2) σ
  repeat' first
    | exact zPr.none
    | exact zPr.some (by assumption)
    | refine zPr.ite ?_ ?_
    | refine zPr.wI (by assumption) (by simp only [sX5_advance, List.mem_cons, List.not_mem_nil, or_false]; omega) (fun _ _ => ?_)
    | refine zPr.wL (by assumption) (by simp only [sX5_advance, List.mem_cons, List.not_mem_nil, or_false]; omega) (fun _ _ => ?_)
    | refine zPr.bI (by assumption) (by simp only [sX5_advance, List.mem_cons, List.not_mem_nil, or_false]; omega) (fun _ _ => ?_)
    | refine zPr.bL (by assumption) (by simp only [sX5_advance, List.mem_cons, List.not_mem_nil, or_false]; omega) (fun _ _ => ?_)
    | refine zPr.wC (by assumption) (by simp only [sX5_advance, List.mem_cons, List.not_mem_nil, or_false]; omega) (fun _ _ => ?_)
    | refine zPr.aI (fun _ => ?_)
    | refine zPr.aL (fun _ => ?_)
    | refine zPr.gd ?_
    | refine zPr.bw (S' := sX5_fail) (by assumption) (mX5_fail ..) (fun p hp => by simp only [sX5_fail, sX5_advance, List.mem_cons, List.not_mem_nil, or_false] at hp ⊢ <;> omega) (fun _ _ => ?_)
    | refine zPr.bw (S' := sX5_scanNumber) (by assumption) (mX5_scanNumber ..) (fun p hp => by simp only [sX5_scanNumber, sX5_advance, List.mem_cons, List.not_mem_nil, or_false] at hp ⊢ <;> omega) (fun _ _ => ?_)
    | refine zPr.bw (S' := sX5_scanSign) (by assumption) (mX5_scanSign ..) (fun p hp => by simp only [sX5_scanSign, sX5_advance, List.mem_cons, List.not_mem_nil, or_false] at hp ⊢ <;> omega) (fun _ _ => ?_)
    | refine zPr.bw (S' := sX5_scanWord) (by assumption) (mX5_scanWord ..) (fun p hp => by simp only [sX5_scanWord, sX5_advance, List.mem_cons, List.not_mem_nil, or_false] at hp ⊢ <;> omega) (fun _ _ => ?_)
    | refine zPr.bw (S' := sX5_skipBlanks) (by assumption) (mX5_skipBlanks ..) (fun p hp => by simp only [sX5_skipBlanks, sX5_advance, List.mem_cons, List.not_mem_nil, or_false] at hp ⊢ <;> omega) (fun _ _ => ?_)
    | refine zPr.bnr (fun _ => ?_)
    | refine zPr.bnv (fun _ => ?_)
    | exact zPr.tail (S' := sX5_advance) (by assumption) (mX5_advance_165 ..) (fun _ h => h)
    | exact zPr.tail (S' := sX5_advance) (by assumption) (mX5_advance_145 ..) (fun _ h => h)
    | exact zPr.tail (S' := sX5_advance) (by assumption) (mX5_advance_57 ..) (fun _ h => h)
    | exact zPr.tail (S' := sX5_advance) (by assumption) (mX5_advance_56 ..) (fun _ h => h)
    | exact zPr.tail (S' := sX5_advance) (by assumption) (mX5_advance_30 ..) (fun _ h => h)
    | exact zPr.tail (S' := sX5_advance) (by assumption) (mX5_advance_25 ..) (fun _ h => h)
def sX7_begin (b1 : Bool) (t : Bool × Bool × Bool) : List Nat := [5]
theorem mX7_begin_16 (b1 : Bool) : ∀ (fuel : Nat) (x2 : Int32) (σ : zS), zPr (sX7_begin b1 σ.2.2) σ id (fX7_begin_16 b1 fuel x2 σ) := by
  intro fuel
  induction fuel with
  | zero => intro x2 σ; exact zPr.none
  | succ f ih =>
    intro x2 σ
    rw [fX7_begin_16]
    have hc := zSm.rfl (sX7_begin b1 σ.2.2) σ
    repeat' first
      | exact zPr.none
      | exact zPr.some (by assumption)
      | refine zPr.ite ?_ ?_
      | refine zPr.wI (by assumption) (by simp only [sX7_begin, List.mem_cons, List.not_mem_nil, or_false]; omega) (fun _ _ => ?_)
      | refine zPr.wL (by assumption) (by simp only [sX7_begin, List.mem_cons, List.not_mem_nil, or_false]; omega) (fun _ _ => ?_)
      | refine zPr.bI (by assumption) (by simp only [sX7_begin, List.mem_cons, List.not_mem_nil, or_false]; omega) (fun _ _ => ?_)
      | refine zPr.bL (by assumption) (by simp only [sX7_begin, List.mem_cons, List.not_mem_nil, or_false]; omega) (fun _ _ => ?_)
      | refine zPr.wC (by assumption) (by simp only [sX7_begin, List.mem_cons, List.not_mem_nil, or_false]; omega) (fun _ _ => ?_)
      | refine zPr.aI (fun _ => ?_)
      | refine zPr.aL (fun _ => ?_)
      | refine zPr.gd ?_
      | refine zPr.bnr (fun _ => ?_)
      | refine zPr.bnv (fun _ => ?_)
      | exact zPr.tail (S' := sX7_begin b1) (by assumption) (ih ..) (fun _ h => h)
theorem mX7_begin (b1 : Bool) (σ : zS) : zPr (sX7_begin b1 σ.2.2) σ id (fX7_begin b1 σ) := by
  unfold fX7_begin
  have hc := zSm.rfl (sX7_begin b1 σ.2.2) σ
  repeat' first
    | exact zPr.none
    | exact zPr.some (by assumption)
    | refine zPr.ite ?_ ?_
    | refine zPr.wI (by assumption) (by simp only [sX7_begin, List.mem_cons, List.not_mem_nil, or_false]; omega) (fun _ _ => ?_)
    | refine zPr.wL (by assumption) (by simp only [sX7_begin, List.mem_cons, List.not_mem_nil, or_false]; omega) (fun _ _ => ?_)
    | refine zPr.bI (by assumption) (by simp only [sX7_begin, List.mem_cons, List.not_mem_nil, or_false]; omega) (fun _ _ => ?_)
    | refine zPr.bL (by assumption) (by simp only [sX7_begin, List.mem_cons, List.not_mem_nil, or_false]; omega) (fun _ _ => ?_)
    | refine zPr.wC (by assumption) (by simp only [sX7_begin, List.mem_cons, List.not_mem_nil, or_false]; omega) (fun _ _ => ?_)
    | refine zPr.aI (fun _ => ?_)
    | refine zPr.aL (fun _ => ?_)
    | refine zPr.gd ?_
    | refine zPr.bnr (fun _ => ?_)
    | refine zPr.bnv (fun _ => ?_)
    | exact zPr.tail (S' := sX7_begin b1) (by assumption) (mX7_begin_16 _ ..) (fun _ h => h)
def sX0_forget (t : Bool × Bool × Bool) : List Nat := [27]
theorem mX0_forget (σ : zS) : zPr (sX0_forget σ.2.2) σ id (fX0_forget σ) := by
  unfold fX0_forget
  have hc := zSm.rfl (sX0_forget σ.2.2) σ
  repeat' first
    | exact zPr.none
    | exact zPr.some (by assumption)
    | refine zPr.ite ?_ ?_
    | refine zPr.wI (by assumption) (by simp only [sX0_forget, List.mem_cons, List.not_mem_nil, or_false]; omega) (fun _ _ => ?_)
    | refine zPr.wL (by assumption) (by simp only [sX0_forget, List.mem_cons, List.not_mem_nil, or_false]; omega) (fun _ _ => ?_)
    | refine zPr.bI (by assumption) (by simp only [sX0_forget, List.mem_cons, List.not_mem_nil, or_false]; omega) (fun _ _ => ?_)
    | refine zPr.bL (by assumption) (by simp only [sX0_forget, List.mem_cons, List.not_mem_nil, or_false]; omega) (fun _ _ => ?_)
    | refine zPr.wC (by assumption) (by simp only [sX0_forget, List.mem_cons, List.not_mem_nil, or_false]; omega) (fun _ _ => ?_)
    | refine zPr.aI (fun _ => ?_)
    | refine zPr.aL (fun _ => ?_)
    | refine zPr.gd ?_
    | refine zPr.bnr (fun _ => ?_)
    | refine zPr.bnv (fun _ => ?_)
def sX5_takeNewName (t : Bool × Bool × Bool) : List Nat := [54]
theorem mX5_takeNewName_63 (x1 : Int32) (σ : zS) : zPr (sX5_takeNewName σ.2.2) σ Prod.snd (fX5_takeNewName_63 x1 σ) := by
  unfold fX5_takeNewName_63
  have hc := zSm.rfl (sX5_takeNewName σ.2.2) σ
  repeat' first
    | exact zPr.none
    | exact zPr.some (by assumption)
    | refine zPr.ite ?_ ?_
    | refine zPr.wI (by assumption) (by simp only [sX5_takeNewName, List.mem_cons, List.not_mem_nil, or_false]; omega) (fun _ _ => ?_)
    | refine zPr.wL (by assumption) (by simp only [sX5_takeNewName, List.mem_cons, List.not_mem_nil, or_false]; omega) (fun _ _ => ?_)
    | refine zPr.bI (by assumption) (by simp only [sX5_takeNewName, List.mem_cons, List.not_mem_nil, or_false]; omega) (fun _ _ => ?_)
    | refine zPr.bL (by assumption) (by simp only [sX5_takeNewName, List.mem_cons, List.not_mem_nil, or_false]; omega) (fun _ _ => ?_)
    | refine zPr.wC (by assumption) (by simp only [sX5_takeNewName, List.mem_cons, List.not_mem_nil, or_false]; omega) (fun _ _ => ?_)
    | refine zPr.aI (fun _ => ?_)
    | refine zPr.aL (fun _ => ?_)
    | refine zPr.gd ?_
    | refine zPr.bw (S' := sX5_advance) (by assumption) (mX5_advance ..) (fun p hp => by simp only [sX5_advance, sX5_takeNewName, List.mem_cons, List.not_mem_nil, or_false] at hp ⊢ <;> omega) (fun _ _ => ?_)
    | refine zPr.bw (S' := sX5_fail) (by assumption) (mX5_fail ..) (fun p hp => by simp only [sX5_fail, sX5_takeNewName, List.mem_cons, List.not_mem_nil, or_false] at hp ⊢ <;> omega) (fun _ _ => ?_)
    | refine zPr.bnr (fun _ => ?_)
    | refine zPr.bnv (fun _ => ?_)
theorem mX5_takeNewName_54 (x1 : Int32) (σ : zS) : zPr (sX5_takeNewName σ.2.2) σ Prod.snd (fX5_takeNewName_54 x1 σ) := by
  unfold fX5_takeNewName_54
  have hc := zSm.rfl (sX5_takeNewName σ.2.2) σ
  repeat' first
    | exact zPr.none
    | exact zPr.some (by assumption)
    | refine zPr.ite ?_ ?_
    | refine zPr.wI (by assumption) (by simp only [sX5_takeNewName, List.mem_cons, List.not_mem_nil, or_false]; omega) (fun _ _ => ?_)
    | refine zPr.wL (by assumption) (by simp only [sX5_takeNewName, List.mem_cons, List.not_mem_nil, or_false]; omega) (fun _ _ => ?_)
    | refine zPr.bI (by assumption) (by simp only [sX5_takeNewName, List.mem_cons, List.not_mem_nil, or_false]; omega) (fun _ _ => ?_)
    | refine zPr.bL (by assumption) (by simp only [sX5_takeNewName, List.mem_cons, List.not_mem_nil, or_false]; omega) (fun _ _ => ?_)
    | refine zPr.wC (by assumption) (by simp only [sX5_takeNewName, List.mem_cons, List.not_mem_nil, or_false]; omega) (fun _ _ => ?_)
    | refine zPr.aI (fun _ => ?_)
    | refine zPr.aL (fun _ => ?_)
    | refine zPr.gd ?_
    | refine zPr.bw (S' := sX5_advance) (by assumption) (mX5_advance ..) (fun p hp => by simp only [sX5_advance, sX5_takeNewName, List.mem_cons, List.not_mem_nil, or_false] at hp ⊢ <;> omega) (fun _ _ => ?_)
    | refine zPr.bw (S' := sX5_fail) (by assumption) (mX5_fail ..) (fun p hp => by simp only [sX5_fail, sX5_takeNewName, List.mem_cons, List.not_mem_nil, or_false] at hp ⊢ <;> omega) (fun _ _ => ?_)
    | refine zPr.bnr (fun _ => ?_)
    | refine zPr.bnv (fun _ => ?_)
    | exact zPr.tail (S' := sX5_takeNewName) (by assumption) (mX5_takeNewName_63 ..) (fun _ h => h)
theorem mX5_takeNewName (σ : zS) : zPr (sX5_takeNewName σ.2.2) σ Prod.snd (fX5_takeNewName σ) := by
  unfold fX5_takeNewName
  have hc := zSm.rfl (sX5_takeNewName σ.2.2) σ
  repeat' first
    | exact zPr.none
    | exact zPr.some (by assumption)
    | refine zPr.ite ?_ ?_
    | refine zPr.wI (by assumption) (by simp only [sX5_takeNewName, List.mem_cons, List.not_mem_nil, or_false]; omega) (fun _ _ => ?_)
    | refine zPr.wL (by assumption) (by simp only [sX5_takeNewName, List.mem_cons, List.not_mem_nil, or_false]; omega) (fun _ _ => ?_)
    | refine zPr.bI (by assumption) (by simp only [sX5_takeNewName, List.mem_cons, List.not_mem_nil, or_false]; omega) (fun _ _ => ?_)
    | refine zPr.bL (by assumption) (by simp only [sX5_takeNewName, List.mem_cons, List.not_mem_nil, or_false]; omega) (fun _ _ => ?_)
    | refine zPr.wC (by assumption) (by simp only [sX5_takeNewName, List.mem_cons, List.not_mem_nil, or_false]; omega) (fun _ _ => ?_)
    | refine zPr.aI (fun _ => ?_)
    | refine zPr.aL (fun _ => ?_)
    | refine zPr.gd ?_
    | refine zPr.bw (S' := sX5_advance) (by assumption) (mX5_advance ..) (fun p hp => by simp only [sX5_advance, sX5_takeNewName, List.mem_cons, List.not_mem_nil, or_false] at hp ⊢ <;> omega) (fun _ _ => ?_)
    | refine zPr.bw (S' := sX5_fail) (by assumption) (mX5_fail ..) (fun p hp => by simp only [sX5_fail, sX5_takeNewName, List.mem_cons, List.not_mem_nil, or_false] at hp ⊢ <;> omega) (fun _ _ => ?_)
    | refine zPr.bnr (fun _ => ?_)
    | refine zPr.bnv (fun _ => ?_)
    | exact zPr.tail (S' := sX5_takeNewName) (by assumption) (mX5_takeNewName_63 ..) (fun _ h => h)
    | exact zPr.tail (S' := sX5_takeNewName) (by assumption) (mX5_takeNewName_54 ..) (fun _ h => h)
def sX5_takeWord (t : Bool × Bool × Bool) : List Nat := [54]
theorem mX5_takeWord (p1 : Int32) (σ : zS) : zPr (sX5_takeWord σ.2.2) σ id (fX5_takeWord p1 σ) := by
  unfold fX5_takeWord
  have hc := zSm.rfl (sX5_takeWord σ.2.2) σ
  repeat' first
    | exact zPr.none
    | exact zPr.some (by assumption)
    | refine zPr.ite ?_ ?_
    | refine zPr.wI (by assumption) (by simp only [sX5_takeWord, List.mem_cons, List.not_mem_nil, or_false]; omega) (fun _ _ => ?_)
    | refine zPr.wL (by assumption) (by simp only [sX5_takeWord, List.mem_cons, List.not_mem_nil, or_false]; omega) (fun _ _ => ?_)
    | refine zPr.bI (by assumption) (by simp only [sX5_takeWord, List.mem_cons, List.not_mem_nil, or_false]; omega) (fun _ _ => ?_)
    | refine zPr.bL (by assumption) (by simp only [sX5_takeWord, List.mem_cons, List.not_mem_nil, or_false]; omega) (fun _ _ => ?_)
    | refine zPr.wC (by assumption) (by simp only [sX5_takeWord, List.mem_cons, List.not_mem_nil, or_false]; omega) (fun _ _ => ?_)
    | refine zPr.aI (fun _ => ?_)
    | refine zPr.aL (fun _ => ?_)
    | refine zPr.gd ?_
    | refine zPr.bw (S' := sX5_advance) (by assumption) (mX5_advance ..) (fun p hp => by simp only [sX5_advance, sX5_takeWord, List.mem_cons, List.not_mem_nil, or_false] at hp ⊢ <;> omega) (fun _ _ => ?_)
    | refine zPr.bw (S' := sX5_fail) (by assumption) (mX5_fail ..) (fun p hp => by simp only [sX5_fail, sX5_takeWord, List.mem_cons, List.not_mem_nil, or_false] at hp ⊢ <;> omega) (fun _ _ => ?_)
    | refine zPr.bnr (fun _ => ?_)
    | refine zPr.bnv (fun _ => ?_)
def sX5_takeNumber (t : Bool × Bool × Bool) : List Nat := [54]
theorem mX5_takeNumber_50 (x3 : Int32) (σ : zS) : zPr (sX5_takeNumber σ.2.2) σ Prod.snd (fX5_takeNumber_50 x3 σ) := by
  unfold fX5_takeNumber_50
  have hc := zSm.rfl (sX5_takeNumber σ.2.2) σ
  repeat' first
    | exact zPr.none
    | exact zPr.some (by assumption)
    | refine zPr.ite ?_ ?_
    | refine zPr.wI (by assumption) (by simp only [sX5_takeNumber, List.mem_cons, List.not_mem_nil, or_false]; omega) (fun _ _ => ?_)
    | refine zPr.wL (by assumption) (by simp only [sX5_takeNumber, List.mem_cons, List.not_mem_nil, or_false]; omega) (fun _ _ => ?_)
    | refine zPr.bI (by assumption) (by simp only [sX5_takeNumber, List.mem_cons, List.not_mem_nil, or_false]; omega) (fun _ _ => ?_)
    | refine zPr.bL (by assumption) (by simp only [sX5_takeNumber, List.mem_cons, List.not_mem_nil, or_false]; omega) (fun _ _ => ?_)
    | refine zPr.wC (by assumption) (by simp only [sX5_takeNumber, List.mem_cons, List.not_mem_nil, or_false]; omega) (fun _ _ => ?_)
    | refine zPr.aI (fun _ => ?_)
    | refine zPr.aL (fun _ => ?_)
    | refine zPr.gd ?_
    | refine zPr.bw (S' := sX5_advance) (by assumption) (mX5_advance ..) (fun p hp => by simp only [sX5_advance, sX5_takeNumber, List.mem_cons, List.not_mem_nil, or_false] at hp ⊢ <;> omega) (fun _ _ => ?_)
    | refine zPr.bw (S' := sX5_fail) (by assumption) (mX5_fail ..) (fun p hp => by simp only [sX5_fail, sX5_takeNumber, List.mem_cons, List.not_mem_nil, or_false] at hp ⊢ <;> omega) (fun _ _ => ?_)
    | refine zPr.bnr (fun _ => ?_)
    | refine zPr.bnv (fun _ => ?_)
theorem mX5_takeNumber_41 (x3 : Int32) (σ : zS) : zPr (sX5_takeNumber σ.2.2) σ Prod.snd (fX5_takeNumber_41 x3 σ) := by
  unfold fX5_takeNumber_41
  have hc := zSm.rfl (sX5_takeNumber σ.2.2) σ
  repeat' first
    | exact zPr.none
    | exact zPr.some (by assumption)
    | refine zPr.ite ?_ ?_
    | refine zPr.wI (by assumption) (by simp only [sX5_takeNumber, List.mem_cons, List.not_mem_nil, or_false]; omega) (fun _ _ => ?_)
    | refine zPr.wL (by assumption) (by simp only [sX5_takeNumber, List.mem_cons, List.not_mem_nil, or_false]; omega) (fun _ _ => ?_)
    | refine zPr.bI (by assumption) (by simp only [sX5_takeNumber, List.mem_cons, List.not_mem_nil, or_false]; omega) (fun _ _ => ?_)
    | refine zPr.bL (by assumption) (by simp only [sX5_takeNumber, List.mem_cons, List.not_mem_nil, or_false]; omega) (fun _ _ => ?_)
    | refine zPr.wC (by assumption) (by simp only [sX5_takeNumber, List.mem_cons, List.not_mem_nil, or_false]; omega) (fun _ _ => ?_)
    | refine zPr.aI (fun _ => ?_)
    | refine zPr.aL (fun _ => ?_)
    | refine zPr.gd ?_
    | refine zPr.bw (S' := sX5_advance) (by assumption) (mX5_advance ..) (fun p hp => by simp only [sX5_advance, sX5_takeNumber, List.mem_cons, List.not_mem_nil, or_false] at hp ⊢ <;> omega) (fun _ _ => ?_)
    | refine zPr.bw (S' := sX5_fail) (by assumption) (mX5_fail ..) (fun p hp => by simp only [sX5_fail, sX5_takeNumber, List.mem_cons, List.not_mem_nil, or_false] at hp ⊢ <;> omega) (fun _ _ => ?_)
    | refine zPr.bnr (fun _ => ?_)
    | refine zPr.bnv (fun _ => ?_)
    | exact zPr.tail (S' := sX5_takeNumber) (by assumption) (mX5_takeNumber_50 ..) (fun _ h => h)
theorem mX5_takeNumber (p1 : Int32) (p2 : Int32) (σ : zS) : zPr (sX5_takeNumber σ.2.2) σ Prod.snd (fX5_takeNumber p1 p2 σ) := by
  unfold fX5_takeNumber
  have hc := zSm.rfl (sX5_takeNumber σ.2.2) σ
  repeat' first
    | exact zPr.none
    | exact zPr.some (by assumption)
    | refine zPr.ite ?_ ?_
    | refine zPr.wI (by assumption) (by simp only [sX5_takeNumber, List.mem_cons, List.not_mem_nil, or_false]; omega) (fun _ _ => ?_)
    | refine zPr.wL (by assumption) (by simp only [sX5_takeNumber, List.mem_cons, List.not_mem_nil, or_false]; omega) (fun _ _ => ?_)
    | refine zPr.bI (by assumption) (by simp only [sX5_takeNumber, List.mem_cons, List.not_mem_nil, or_false]; omega) (fun _ _ => ?_)
    | refine zPr.bL (by assumption) (by simp only [sX5_takeNumber, List.mem_cons, List.not_mem_nil, or_false]; omega) (fun _ _ => ?_)
    | refine zPr.wC (by assumption) (by simp only [sX5_takeNumber, List.mem_cons, List.not_mem_nil, or_false]; omega) (fun _ _ => ?_)
    | refine zPr.aI (fun _ => ?_)
    | refine zPr.aL (fun _ => ?_)
    | refine zPr.gd ?_
    | refine zPr.bw (S' := sX5_advance) (by assumption) (mX5_advance ..) (fun p hp => by simp only [sX5_advance, sX5_takeNumber, List.mem_cons, List.not_mem_nil, or_false] at hp ⊢ <;> omega) (fun _ _ => ?_)
    | refine zPr.bw (S' := sX5_fail) (by assumption) (mX5_fail ..) (fun p hp => by simp only [sX5_fail, sX5_takeNumber, List.mem_cons, List.not_mem_nil, or_false] at hp ⊢ <;> omega) (fun _ _ => ?_)
    | refine zPr.bnr (fun _ => ?_)
    | refine zPr.bnv (fun _ => ?_)
    | exact zPr.tail (S' := sX5_takeNumber) (by assumption) (mX5_takeNumber_50 ..) (fun _ h => h)
    | exact zPr.tail (S' := sX5_takeNumber) (by assumption) (mX5_takeNumber_41 ..) (fun _ h => h)
def sX5_readLength (t : Bool × Bool × Bool) : List Nat := [rp t.2.2 + 3, rp t.2.2 + 4, rp t.2.2 + 5, 54]
theorem mX5_readLength_63 (x1 : Int32) (x2 : Int32) (σ : zS) : zPr (sX5_readLength σ.2.2) σ id (fX5_readLength_63 x1 x2 σ) := by
  unfold fX5_readLength_63
  have hc := zSm.rfl (sX5_readLength σ.2.2) σ
  repeat' first
    | exact zPr.none
    | exact zPr.some (by assumption)
    | refine zPr.ite ?_ ?_
    | refine zPr.wI (by assumption) (by simp only [sX5_readLength, List.mem_cons, List.not_mem_nil, or_false]; omega) (fun _ _ => ?_)
    | refine zPr.wL (by assumption) (by simp only [sX5_readLength, List.mem_cons, List.not_mem_nil, or_false]; omega) (fun _ _ => ?_)
    | refine zPr.bI (by assumption) (by simp only [sX5_readLength, List.mem_cons, List.not_mem_nil, or_false]; omega) (fun _ _ => ?_)
    | refine zPr.bL (by assumption) (by simp only [sX5_readLength, List.mem_cons, List.not_mem_nil, or_false]; omega) (fun _ _ => ?_)
    | refine zPr.wC (by assumption) (by simp only [sX5_readLength, List.mem_cons, List.not_mem_nil, or_false]; omega) (fun _ _ => ?_)
    | refine zPr.aI (fun _ => ?_)
    | refine zPr.aL (fun _ => ?_)
    | refine zPr.gd ?_
    | refine zPr.bw (S' := sX5_fail) (by assumption) (mX5_fail ..) (fun p hp => by simp only [sX5_fail, sX5_readLength, List.mem_cons, List.not_mem_nil, or_false] at hp ⊢ <;> omega) (fun _ _ => ?_)
    | refine zPr.bc (S' := sX5_takeNumber) (by assumption) (mX5_takeNumber ..) (fun p hp => by simp only [sX5_takeNumber, sX5_readLength, List.mem_cons, List.not_mem_nil, or_false] at hp ⊢ <;> omega) (fun _ _ _ => ?_)
    | refine zPr.bw (S' := sX5_takeWord) (by assumption) (mX5_takeWord ..) (fun p hp => by simp only [sX5_takeWord, sX5_readLength, List.mem_cons, List.not_mem_nil, or_false] at hp ⊢ <;> omega) (fun _ _ => ?_)
    | refine zPr.bnr (fun _ => ?_)
    | refine zPr.bnv (fun _ => ?_)
theorem mX5_readLength (p1 : Int32) (σ : zS) : zPr (sX5_readLength σ.2.2) σ id (fX5_readLength p1 σ) := by
  unfold fX5_readLength
  have hc := zSm.rfl (sX5_readLength σ.2.2) σ
  repeat' first
    | exact zPr.none
    | exact zPr.some (by assumption)
    | refine zPr.ite ?_ ?_
    | refine zPr.wI (by assumption) (by simp only [sX5_readLength, List.mem_cons, List.not_mem_nil, or_false]; omega) (fun _ _ => ?_)
    | refine zPr.wL (by assumption) (by simp only [sX5_readLength, List.mem_cons, List.not_mem_nil, or_false]; omega) (fun _ _ => ?_)
    | refine zPr.bI (by assumption) (by simp only [sX5_readLength, List.mem_cons, List.not_mem_nil, or_false]; omega) (fun _ _ => ?_)
    | refine zPr.bL (by assumption) (by simp only [sX5_readLength, List.mem_cons, List.not_mem_nil, or_false]; omega) (fun _ _ => ?_)
    | refine zPr.wC (by assumption) (by simp only [sX5_readLength, List.mem_cons, List.not_mem_nil, or_false]; omega) (fun _ _ => ?_)
    | refine zPr.aI (fun _ => ?_)
    | refine zPr.aL (fun _ => ?_)
    | refine zPr.gd ?_
    | refine zPr.bw (S' := sX5_fail) (by assumption) (mX5_fail ..) (fun p hp => by simp only [sX5_fail, sX5_readLength, List.mem_cons, List.not_mem_nil, or_false] at hp ⊢ <;> omega) (fun _ _ => ?_)
    | refine zPr.bc (S' := sX5_takeNumber) (by assumption) (mX5_takeNumber ..) (fun p hp => by simp only [sX5_takeNumber, sX5_readLength, List.mem_cons, List.not_mem_nil, or_false] at hp ⊢ <;> omega) (fun _ _ _ => ?_)
    | refine zPr.bw (S' := sX5_takeWord) (by assumption) (mX5_takeWord ..) (fun p hp => by simp only [sX5_takeWord, sX5_readLength, List.mem_cons, List.not_mem_nil, or_false] at hp ⊢ <;> omega) (fun _ _ => ?_)
    | refine zPr.bnr (fun _ => ?_)
    | refine zPr.bnv (fun _ => ?_)
    | exact zPr.tail (S' := sX5_readLength) (by assumption) (mX5_readLength_63 ..) (fun _ h => h)
def sX5_readTunnel (t : Bool × Bool × Bool) : List Nat := [rp t.2.2 + 0, rp t.2.2 + 1, rp t.2.2 + 2, rp t.2.2 + 3, rp t.2.2 + 4, rp t.2.2 + 5, 54]
theorem mX5_readTunnel_100 (σ : zS) : zPr (sX5_readTunnel σ.2.2) σ id (fX5_readTunnel_100 σ) := by
  unfold fX5_readTunnel_100
  have hc := zSm.rfl (sX5_readTunnel σ.2.2) σ
  repeat' first
    | exact zPr.none
    | exact zPr.some (by assumption)
    | refine zPr.ite ?_ ?_
    | refine zPr.wI (by assumption) (by simp only [sX5_readTunnel, List.mem_cons, List.not_mem_nil, or_false]; omega) (fun _ _ => ?_)
    | refine zPr.wL (by assumption) (by simp only [sX5_readTunnel, List.mem_cons, List.not_mem_nil, or_false]; omega) (fun _ _ => ?_)
    | refine zPr.bI (by assumption) (by simp only [sX5_readTunnel, List.mem_cons, List.not_mem_nil, or_false]; omega) (fun _ _ => ?_)
    | refine zPr.bL (by assumption) (by simp only [sX5_readTunnel, List.mem_cons, List.not_mem_nil, or_false]; omega) (fun _ _ => ?_)
    | refine zPr.wC (by assumption) (by simp only [sX5_readTunnel, List.mem_cons, List.not_mem_nil, or_false]; omega) (fun _ _ => ?_)
    | refine zPr.aI (fun _ => ?_)
    | refine zPr.aL (fun _ => ?_)
    | refine zPr.gd ?_
    | refine zPr.bw (S' := sX5_advance) (by assumption) (mX5_advance ..) (fun p hp => by simp only [sX5_advance, sX5_readTunnel, List.mem_cons, List.not_mem_nil, or_false] at hp ⊢ <;> omega) (fun _ _ => ?_)
    | refine zPr.bw (S' := sX5_fail) (by assumption) (mX5_fail ..) (fun p hp => by simp only [sX5_fail, sX5_readTunnel, List.mem_cons, List.not_mem_nil, or_false] at hp ⊢ <;> omega) (fun _ _ => ?_)
    | refine zPr.bw (S' := sX5_readLength) (by assumption) (mX5_readLength ..) (fun p hp => by simp only [sX5_readLength, sX5_readTunnel, List.mem_cons, List.not_mem_nil, or_false] at hp ⊢ <;> omega) (fun _ _ => ?_)
    | refine zPr.bc (S' := sX5_takeNewName) (by assumption) (mX5_takeNewName ..) (fun p hp => by simp only [sX5_takeNewName, sX5_readTunnel, List.mem_cons, List.not_mem_nil, or_false] at hp ⊢ <;> omega) (fun _ _ _ => ?_)
    | refine zPr.bc (S' := sX5_takeNumber) (by assumption) (mX5_takeNumber ..) (fun p hp => by simp only [sX5_takeNumber, sX5_readTunnel, List.mem_cons, List.not_mem_nil, or_false] at hp ⊢ <;> omega) (fun _ _ _ => ?_)
    | refine zPr.bw (S' := sX5_takeWord) (by assumption) (mX5_takeWord ..) (fun p hp => by simp only [sX5_takeWord, sX5_readTunnel, List.mem_cons, List.not_mem_nil, or_false] at hp ⊢ <;> omega) (fun _ _ => ?_)
    | refine zPr.bnr (fun _ => ?_)
    | refine zPr.bnv (fun _ => ?_)
theorem mX5_readTunnel_76 : ∀ (fuel : Nat) (x1 : Int32) (x2 : Int32) (σ : zS), zPr (sX5_readTunnel σ.2.2) σ id (fX5_readTunnel_76 fuel x1 x2 σ) := by
  intro fuel
  induction fuel with
  | zero => intro x1 x2 σ; exact zPr.none
  | succ f ih =>
    intro x1 x2 σ
    rw [fX5_readTunnel_76]
    have hc := zSm.rfl (sX5_readTunnel σ.2.2) σ
    repeat' first
      | exact zPr.none
      | exact zPr.some (by assumption)
      | refine zPr.ite ?_ ?_
      | refine zPr.wI (by assumption) (by simp only [sX5_readTunnel, List.mem_cons, List.not_mem_nil, or_false]; omega) (fun _ _ => ?_)
      | refine zPr.wL (by assumption) (by simp only [sX5_readTunnel, List.mem_cons, List.not_mem_nil, or_false]; omega) (fun _ _ => ?_)
      | refine zPr.bI (by assumption) (by simp only [sX5_readTunnel, List.mem_cons, List.not_mem_nil, or_false]; omega) (fun _ _ => ?_)
      | refine zPr.bL (by assumption) (by simp only [sX5_readTunnel, List.mem_cons, List.not_mem_nil, or_false]; omega) (fun _ _ => ?_)
      | refine zPr.wC (by assumption) (by simp only [sX5_readTunnel, List.mem_cons, List.not_mem_nil, or_false]; omega) (fun _ _ => ?_)
      | refine zPr.aI (fun _ => ?_)
      | refine zPr.aL (fun _ => ?_)
      | refine zPr.gd ?_
      | refine zPr.bw (S' := sX5_advance) (by assumption) (mX5_advance ..) (fun p hp => by simp only [sX5_advance, sX5_readTunnel, List.mem_cons, List.not_mem_nil, or_false] at hp ⊢ <;> omega) (fun _ _ => ?_)
      | refine zPr.bw (S' := sX5_fail) (by assumption) (mX5_fail ..) (fun p hp => by simp only [sX5_fail, sX5_readTunnel, List.mem_cons, List.not_mem_nil, or_false] at hp ⊢ <;> omega) (fun _ _ => ?_)
      | refine zPr.bw (S' := sX5_readLength) (by assumption) (mX5_readLength ..) (fun p hp => by simp only [sX5_readLength, sX5_readTunnel, List.mem_cons, List.not_mem_nil, or_false] at hp ⊢ <;> omega) (fun _ _ => ?_)
      | refine zPr.bc (S' := sX5_takeNewName) (by assumption) (mX5_takeNewName ..) (fun p hp => by simp only [sX5_takeNewName, sX5_readTunnel, List.mem_cons, List.not_mem_nil, or_false] at hp ⊢ <;> omega) (fun _ _ _ => ?_)
      | refine zPr.bc (S' := sX5_takeNumber) (by assumption) (mX5_takeNumber ..) (fun p hp => by simp only [sX5_takeNumber, sX5_readTunnel, List.mem_cons, List.not_mem_nil, or_false] at hp ⊢ <;> omega) (fun _ _ _ => ?_)
      | refine zPr.bw (S' := sX5_takeWord) (by assumption) (mX5_takeWord ..) (fun p hp => by simp only [sX5_takeWord, sX5_readTunnel, List.mem_cons, List.not_mem_nil, or_false] at hp ⊢ <;> omega) (fun _ _ => ?_)
      | refine zPr.bnr (fun _ => ?_)
      | refine zPr.bnv (fun _ => ?_)
      | exact zPr.tail (S' := sX5_readTunnel) (by assumption) (ih ..) (fun _ h => h)
      | exact zPr.tail (S' := sX5_readTunnel) (by assumption) (mX5_readTunnel_100 ..) (fun _ h => h)
theorem mX5_readTunnel (σ : zS) : zPr (sX5_readTunnel σ.2.2) σ id (fX5_readTunnel σ) := by
  unfold fX5_readTunnel
  have hc := zSm.rfl (sX5_readTunnel σ.2.2) σ
  repeat' first
    | exact zPr.none
    | exact zPr.some (by assumption)
    | refine zPr.ite ?_ ?_
    | refine zPr.wI (by assumption) (by simp only [sX5_readTunnel, List.mem_cons, List.not_mem_nil, or_false]; omega) (fun _ _ => ?_)
    | refine zPr.wL (by assumption) (by simp only [sX5_readTunnel, List.mem_cons, List.not_mem_nil, or_false]; omega) (fun _ _ => ?_)
    | refine zPr.bI (by assumption) (by simp only [sX5_readTunnel, List.mem_cons, List.not_mem_nil, or_false]; omega) (fun _ _ => ?_)
    | refine zPr.bL (by assumption) (by simp only [sX5_readTunnel, List.mem_cons, List.not_mem_nil, or_false]; omega) (fun _ _ => ?_)
    | refine zPr.wC (by assumption) (by simp only [sX5_readTunnel, List.mem_cons, List.not_mem_nil, or_false]; omega) (fun _ _ => ?_)
    | refine zPr.aI (fun _ => ?_)
    | refine zPr.aL (fun _ => ?_)
    | refine zPr.gd ?_
    | refine zPr.bw (S' := sX5_advance) (by assumption) (mX5_advance ..) (fun p hp => by simp only [sX5_advance, sX5_readTunnel, List.mem_cons, List.not_mem_nil, or_false] at hp ⊢ <;> omega) (fun _ _ => ?_)
    | refine zPr.bw (S' := sX5_fail) (by assumption) (mX5_fail ..) (fun p hp => by simp only [sX5_fail, sX5_readTunnel, List.mem_cons, List.not_mem_nil, or_false] at hp ⊢ <;> omega) (fun _ _ => ?_)
    | refine zPr.bw (S' := sX5_readLength) (by assumption) (mX5_readLength ..) (fun p hp => by simp only [sX5_readLength, sX5_readTunnel, List.mem_cons, List.not_mem_nil, or_false] at hp ⊢ <;> omega) (fun _ _ => ?_)
    | refine zPr.bc (S' := sX5_takeNewName) (by assumption) (mX5_takeNewName ..) (fun p hp => by simp only [sX5_takeNewName, sX5_readTunnel, List.mem_cons, List.not_mem_nil, or_false] at hp ⊢ <;> omega) (fun _ _ _ => ?_)
    | refine zPr.bc (S' := sX5_takeNumber) (by assumption) (mX5_takeNumber ..) (fun p hp => by simp only [sX5_takeNumber, sX5_readTunnel, List.mem_cons, List.not_mem_nil, or_false] at hp ⊢ <;> omega) (fun _ _ _ => ?_)
    | refine zPr.bw (S' := sX5_takeWord) (by assumption) (mX5_takeWord ..) (fun p hp => by simp only [sX5_takeWord, sX5_readTunnel, List.mem_cons, List.not_mem_nil, or_false] at hp ⊢ <;> omega) (fun _ _ => ?_)
    | refine zPr.bnr (fun _ => ?_)
    | refine zPr.bnv (fun _ => ?_)
    | exact zPr.tail (S' := sX5_readTunnel) (by assumption) (mX5_readTunnel_100 ..) (fun _ h => h)
    | exact zPr.tail (S' := sX5_readTunnel) (by assumption) (mX5_readTunnel_76 ..) (fun _ h => h)
def sX5_takeSign (t : Bool × Bool × Bool) : List Nat := [54]
theorem mX5_takeSign (p1 : Int32) (σ : zS) : zPr (sX5_takeSign σ.2.2) σ id (fX5_takeSign p1 σ) := by
  unfold fX5_takeSign
  have hc := zSm.rfl (sX5_takeSign σ.2.2) σ
  repeat' first
    | exact zPr.none
    | exact zPr.some (by assumption)
    | refine zPr.ite ?_ ?_
    | refine zPr.wI (by assumption) (by simp only [sX5_takeSign, List.mem_cons, List.not_mem_nil, or_false]; omega) (fun _ _ => ?_)
    | refine zPr.wL (by assumption) (by simp only [sX5_takeSign, List.mem_cons, List.not_mem_nil, or_false]; omega) (fun _ _ => ?_)
    | refine zPr.bI (by assumption) (by simp only [sX5_takeSign, List.mem_cons, List.not_mem_nil, or_false]; omega) (fun _ _ => ?_)
    | refine zPr.bL (by assumption) (by simp only [sX5_takeSign, List.mem_cons, List.not_mem_nil, or_false]; omega) (fun _ _ => ?_)
    | refine zPr.wC (by assumption) (by simp only [sX5_takeSign, List.mem_cons, List.not_mem_nil, or_false]; omega) (fun _ _ => ?_)
    | refine zPr.aI (fun _ => ?_)
    | refine zPr.aL (fun _ => ?_)
    | refine zPr.gd ?_
    | refine zPr.bw (S' := sX5_advance) (by assumption) (mX5_advance ..) (fun p hp => by simp only [sX5_advance, sX5_takeSign, List.mem_cons, List.not_mem_nil, or_false] at hp ⊢ <;> omega) (fun _ _ => ?_)
    | refine zPr.bw (S' := sX5_fail) (by assumption) (mX5_fail ..) (fun p hp => by simp only [sX5_fail, sX5_takeSign, List.mem_cons, List.not_mem_nil, or_false] at hp ⊢ <;> omega) (fun _ _ => ?_)
    | refine zPr.bnr (fun _ => ?_)
    | refine zPr.bnv (fun _ => ?_)
def sX5_readHolder (t : Bool × Bool × Bool) : List Nat := [rp t.2.2 + 0, rp t.2.2 + 6, rp t.2.2 + 7, rp t.2.2 + 8, 54]
theorem mX5_readHolder (σ : zS) : zPr (sX5_readHolder σ.2.2) σ id (fX5_readHolder σ) := by
  unfold fX5_readHolder
  have hc := zSm.rfl (sX5_readHolder σ.2.2) σ
  repeat' first
    | exact zPr.none
    | exact zPr.some (by assumption)
    | refine zPr.ite ?_ ?_
    | refine zPr.wI (by assumption) (by simp only [sX5_readHolder, List.mem_cons, List.not_mem_nil, or_false]; omega) (fun _ _ => ?_)
    | refine zPr.wL (by assumption) (by simp only [sX5_readHolder, List.mem_cons, List.not_mem_nil, or_false]; omega) (fun _ _ => ?_)
    | refine zPr.bI (by assumption) (by simp only [sX5_readHolder, List.mem_cons, List.not_mem_nil, or_false]; omega) (fun _ _ => ?_)
    | refine zPr.bL (by assumption) (by simp only [sX5_readHolder, List.mem_cons, List.not_mem_nil, or_false]; omega) (fun _ _ => ?_)
    | refine zPr.wC (by assumption) (by simp only [sX5_readHolder, List.mem_cons, List.not_mem_nil, or_false]; omega) (fun _ _ => ?_)
    | refine zPr.aI (fun _ => ?_)
    | refine zPr.aL (fun _ => ?_)
    | refine zPr.gd ?_
    | refine zPr.bw (S' := sX5_advance) (by assumption) (mX5_advance ..) (fun p hp => by simp only [sX5_advance, sX5_readHolder, List.mem_cons, List.not_mem_nil, or_false] at hp ⊢ <;> omega) (fun _ _ => ?_)
    | refine zPr.bw (S' := sX5_fail) (by assumption) (mX5_fail ..) (fun p hp => by simp only [sX5_fail, sX5_readHolder, List.mem_cons, List.not_mem_nil, or_false] at hp ⊢ <;> omega) (fun _ _ => ?_)
    | refine zPr.bc (S' := sX5_takeNewName) (by assumption) (mX5_takeNewName ..) (fun p hp => by simp only [sX5_takeNewName, sX5_readHolder, List.mem_cons, List.not_mem_nil, or_false] at hp ⊢ <;> omega) (fun _ _ _ => ?_)
    | refine zPr.bc (S' := sX5_takeNumber) (by assumption) (mX5_takeNumber ..) (fun p hp => by simp only [sX5_takeNumber, sX5_readHolder, List.mem_cons, List.not_mem_nil, or_false] at hp ⊢ <;> omega) (fun _ _ _ => ?_)
    | refine zPr.bw (S' := sX5_takeWord) (by assumption) (mX5_takeWord ..) (fun p hp => by simp only [sX5_takeWord, sX5_readHolder, List.mem_cons, List.not_mem_nil, or_false] at hp ⊢ <;> omega) (fun _ _ => ?_)
    | refine zPr.bnr (fun _ => ?_)
    | refine zPr.bnv (fun _ => ?_)
def sX5_takeKnownName (t : Bool × Bool × Bool) : List Nat := [54]
theorem mX5_takeKnownName_33 (σ : zS) : zPr (sX5_takeKnownName σ.2.2) σ id (fX5_takeKnownName_33 σ) := by
  unfold fX5_takeKnownName_33
  have hc := zSm.rfl (sX5_takeKnownName σ.2.2) σ
  repeat' first
    | exact zPr.none
    | exact zPr.some (by assumption)
    | refine zPr.ite ?_ ?_
    | refine zPr.wI (by assumption) (by simp only [sX5_takeKnownName, List.mem_cons, List.not_mem_nil, or_false]; omega) (fun _ _ => ?_)
    | refine zPr.wL (by assumption) (by simp only [sX5_takeKnownName, List.mem_cons, List.not_mem_nil, or_false]; omega) (fun _ _ => ?_)
    | refine zPr.bI (by assumption) (by simp only [sX5_takeKnownName, List.mem_cons, List.not_mem_nil, or_false]; omega) (fun _ _ => ?_)
    | refine zPr.bL (by assumption) (by simp only [sX5_takeKnownName, List.mem_cons, List.not_mem_nil, or_false]; omega) (fun _ _ => ?_)
    | refine zPr.wC (by assumption) (by simp only [sX5_takeKnownName, List.mem_cons, List.not_mem_nil, or_false]; omega) (fun _ _ => ?_)
    | refine zPr.aI (fun _ => ?_)
    | refine zPr.aL (fun _ => ?_)
    | refine zPr.gd ?_
    | refine zPr.bw (S' := sX5_advance) (by assumption) (mX5_advance ..) (fun p hp => by simp only [sX5_advance, sX5_takeKnownName, List.mem_cons, List.not_mem_nil, or_false] at hp ⊢ <;> omega) (fun _ _ => ?_)
    | refine zPr.bw (S' := sX5_fail) (by assumption) (mX5_fail ..) (fun p hp => by simp only [sX5_fail, sX5_takeKnownName, List.mem_cons, List.not_mem_nil, or_false] at hp ⊢ <;> omega) (fun _ _ => ?_)
    | refine zPr.bnr (fun _ => ?_)
    | refine zPr.bnv (fun _ => ?_)
theorem mX5_takeKnownName (p1 : Int32) (σ : zS) : zPr (sX5_takeKnownName σ.2.2) σ id (fX5_takeKnownName p1 σ) := by
  unfold fX5_takeKnownName
  have hc := zSm.rfl (sX5_takeKnownName σ.2.2) σ
  repeat' first
    | exact zPr.none
    | exact zPr.some (by assumption)
    | refine zPr.ite ?_ ?_
    | refine zPr.wI (by assumption) (by simp only [sX5_takeKnownName, List.mem_cons, List.not_mem_nil, or_false]; omega) (fun _ _ => ?_)
    | refine zPr.wL (by assumption) (by simp only [sX5_takeKnownName, List.mem_cons, List.not_mem_nil, or_false]; omega) (fun _ _ => ?_)
    | refine zPr.bI (by assumption) (by simp only [sX5_takeKnownName, List.mem_cons, List.not_mem_nil, or_false]; omega) (fun _ _ => ?_)
    | refine zPr.bL (by assumption) (by simp only [sX5_takeKnownName, List.mem_cons, List.not_mem_nil, or_false]; omega) (fun _ _ => ?_)
    | refine zPr.wC (by assumption) (by simp only [sX5_takeKnownName, List.mem_cons, List.not_mem_nil, or_false]; omega) (fun _ _ => ?_)
    | refine zPr.aI (fun _ => ?_)
    | refine zPr.aL (fun _ => ?_)
    | refine zPr.gd ?_
    | refine zPr.bw (S' := sX5_advance) (by assumption) (mX5_advance ..) (fun p hp => by simp only [sX5_advance, sX5_takeKnownName, List.mem_cons, List.not_mem_nil, or_false] at hp ⊢ <;> omega) (fun _ _ => ?_)
    | refine zPr.bw (S' := sX5_fail) (by assumption) (mX5_fail ..) (fun p hp => by simp only [sX5_fail, sX5_takeKnownName, List.mem_cons, List.not_mem_nil, or_false] at hp ⊢ <;> omega) (fun _ _ => ?_)
    | refine zPr.bnr (fun _ => ?_)
    | refine zPr.bnv (fun _ => ?_)
    | exact zPr.tail (S' := sX5_takeKnownName) (by assumption) (mX5_takeKnownName_33 ..) (fun _ h => h)
def sX5_takeHolder (t : Bool × Bool × Bool) : List Nat := [54]
theorem mX5_takeHolder_22 (s0 : Int32) (σ : zS) : zPr (sX5_takeHolder σ.2.2) σ Prod.snd (fX5_takeHolder_22 s0 σ) := by
  unfold fX5_takeHolder_22
  have hc := zSm.rfl (sX5_takeHolder σ.2.2) σ
  repeat' first
    | exact zPr.none
    | exact zPr.some (by assumption)
    | refine zPr.ite ?_ ?_
    | refine zPr.wI (by assumption) (by simp only [sX5_takeHolder, List.mem_cons, List.not_mem_nil, or_false]; omega) (fun _ _ => ?_)
    | refine zPr.wL (by assumption) (by simp only [sX5_takeHolder, List.mem_cons, List.not_mem_nil, or_false]; omega) (fun _ _ => ?_)
    | refine zPr.bI (by assumption) (by simp only [sX5_takeHolder, List.mem_cons, List.not_mem_nil, or_false]; omega) (fun _ _ => ?_)
    | refine zPr.bL (by assumption) (by simp only [sX5_takeHolder, List.mem_cons, List.not_mem_nil, or_false]; omega) (fun _ _ => ?_)
    | refine zPr.wC (by assumption) (by simp only [sX5_takeHolder, List.mem_cons, List.not_mem_nil, or_false]; omega) (fun _ _ => ?_)
    | refine zPr.aI (fun _ => ?_)
    | refine zPr.aL (fun _ => ?_)
    | refine zPr.gd ?_
    | refine zPr.bw (S' := sX5_takeKnownName) (by assumption) (mX5_takeKnownName ..) (fun p hp => by simp only [sX5_takeKnownName, sX5_takeHolder, List.mem_cons, List.not_mem_nil, or_false] at hp ⊢ <;> omega) (fun _ _ => ?_)
    | refine zPr.bnr (fun _ => ?_)
    | refine zPr.bnv (fun _ => ?_)
theorem mX5_takeHolder (σ : zS) : zPr (sX5_takeHolder σ.2.2) σ Prod.snd (fX5_takeHolder σ) := by
  unfold fX5_takeHolder
  have hc := zSm.rfl (sX5_takeHolder σ.2.2) σ
  repeat' first
    | exact zPr.none
    | exact zPr.some (by assumption)
    | refine zPr.ite ?_ ?_
    | refine zPr.wI (by assumption) (by simp only [sX5_takeHolder, List.mem_cons, List.not_mem_nil, or_false]; omega) (fun _ _ => ?_)
    | refine zPr.wL (by assumption) (by simp only [sX5_takeHolder, List.mem_cons, List.not_mem_nil, or_false]; omega) (fun _ _ => ?_)
    | refine zPr.bI (by assumption) (by simp only [sX5_takeHolder, List.mem_cons, List.not_mem_nil, or_false]; omega) (fun _ _ => ?_)
    | refine zPr.bL (by assumption) (by simp only [sX5_takeHolder, List.mem_cons, List.not_mem_nil, or_false]; omega) (fun _ _ => ?_)
    | refine zPr.wC (by assumption) (by simp only [sX5_takeHolder, List.mem_cons, List.not_mem_nil, or_false]; omega) (fun _ _ => ?_)
    | refine zPr.aI (fun _ => ?_)
    | refine zPr.aL (fun _ => ?_)
    | refine zPr.gd ?_
    | refine zPr.bw (S' := sX5_takeKnownName) (by assumption) (mX5_takeKnownName ..) (fun p hp => by simp only [sX5_takeKnownName, sX5_takeHolder, List.mem_cons, List.not_mem_nil, or_false] at hp ⊢ <;> omega) (fun _ _ => ?_)
    | refine zPr.bnr (fun _ => ?_)
    | refine zPr.bnv (fun _ => ?_)
    | exact zPr.tail (S' := sX5_takeHolder) (by assumption) (mX5_takeHolder_22 ..) (fun _ h => h)
def sX5_takeTunnel (t : Bool × Bool × Bool) : List Nat := [54]
theorem mX5_takeTunnel_22 (s0 : Int32) (σ : zS) : zPr (sX5_takeTunnel σ.2.2) σ Prod.snd (fX5_takeTunnel_22 s0 σ) := by
  unfold fX5_takeTunnel_22
  have hc := zSm.rfl (sX5_takeTunnel σ.2.2) σ
  repeat' first
    | exact zPr.none
    | exact zPr.some (by assumption)
    | refine zPr.ite ?_ ?_
    | refine zPr.wI (by assumption) (by simp only [sX5_takeTunnel, List.mem_cons, List.not_mem_nil, or_false]; omega) (fun _ _ => ?_)
    | refine zPr.wL (by assumption) (by simp only [sX5_takeTunnel, List.mem_cons, List.not_mem_nil, or_false]; omega) (fun _ _ => ?_)
    | refine zPr.bI (by assumption) (by simp only [sX5_takeTunnel, List.mem_cons, List.not_mem_nil, or_false]; omega) (fun _ _ => ?_)
    | refine zPr.bL (by assumption) (by simp only [sX5_takeTunnel, List.mem_cons, List.not_mem_nil, or_false]; omega) (fun _ _ => ?_)
    | refine zPr.wC (by assumption) (by simp only [sX5_takeTunnel, List.mem_cons, List.not_mem_nil, or_false]; omega) (fun _ _ => ?_)
    | refine zPr.aI (fun _ => ?_)
    | refine zPr.aL (fun _ => ?_)
    | refine zPr.gd ?_
    | refine zPr.bw (S' := sX5_takeKnownName) (by assumption) (mX5_takeKnownName ..) (fun p hp => by simp only [sX5_takeKnownName, sX5_takeTunnel, List.mem_cons, List.not_mem_nil, or_false] at hp ⊢ <;> omega) (fun _ _ => ?_)
    | refine zPr.bnr (fun _ => ?_)
    | refine zPr.bnv (fun _ => ?_)
theorem mX5_takeTunnel (σ : zS) : zPr (sX5_takeTunnel σ.2.2) σ Prod.snd (fX5_takeTunnel σ) := by
  unfold fX5_takeTunnel
  have hc := zSm.rfl (sX5_takeTunnel σ.2.2) σ
  repeat' first
    | exact zPr.none
    | exact zPr.some (by assumption)
    | refine zPr.ite ?_ ?_
    | refine zPr.wI (by assumption) (by simp only [sX5_takeTunnel, List.mem_cons, List.not_mem_nil, or_false]; omega) (fun _ _ => ?_)
    | refine zPr.wL (by assumption) (by simp only [sX5_takeTunnel, List.mem_cons, List.not_mem_nil, or_false]; omega) (fun _ _ => ?_)
    | refine zPr.bI (by assumption) (by simp only [sX5_takeTunnel, List.mem_cons, List.not_mem_nil, or_false]; omega) (fun _ _ => ?_)
    | refine zPr.bL (by assumption) (by simp only [sX5_takeTunnel, List.mem_cons, List.not_mem_nil, or_false]; omega) (fun _ _ => ?_)
    | refine zPr.wC (by assumption) (by simp only [sX5_takeTunnel, List.mem_cons, List.not_mem_nil, or_false]; omega) (fun _ _ => ?_)
    | refine zPr.aI (fun _ => ?_)
    | refine zPr.aL (fun _ => ?_)
    | refine zPr.gd ?_
    | refine zPr.bw (S' := sX5_takeKnownName) (by assumption) (mX5_takeKnownName ..) (fun p hp => by simp only [sX5_takeKnownName, sX5_takeTunnel, List.mem_cons, List.not_mem_nil, or_false] at hp ⊢ <;> omega) (fun _ _ => ?_)
    | refine zPr.bnr (fun _ => ?_)
    | refine zPr.bnv (fun _ => ?_)
    | exact zPr.tail (S' := sX5_takeTunnel) (by assumption) (mX5_takeTunnel_22 ..) (fun _ h => h)
def sX5_readThinks (t : Bool × Bool × Bool) : List Nat := [rp t.2.2 + 10, 54]
theorem mX5_readThinks (σ : zS) : zPr (sX5_readThinks σ.2.2) σ id (fX5_readThinks σ) := by
  unfold fX5_readThinks
  have hc := zSm.rfl (sX5_readThinks σ.2.2) σ
  repeat' first
    | exact zPr.none
    | exact zPr.some (by assumption)
    | refine zPr.ite ?_ ?_
    | refine zPr.wI (by assumption) (by simp only [sX5_readThinks, List.mem_cons, List.not_mem_nil, or_false]; omega) (fun _ _ => ?_)
    | refine zPr.wL (by assumption) (by simp only [sX5_readThinks, List.mem_cons, List.not_mem_nil, or_false]; omega) (fun _ _ => ?_)
    | refine zPr.bI (by assumption) (by simp only [sX5_readThinks, List.mem_cons, List.not_mem_nil, or_false]; omega) (fun _ _ => ?_)
    | refine zPr.bL (by assumption) (by simp only [sX5_readThinks, List.mem_cons, List.not_mem_nil, or_false]; omega) (fun _ _ => ?_)
    | refine zPr.wC (by assumption) (by simp only [sX5_readThinks, List.mem_cons, List.not_mem_nil, or_false]; omega) (fun _ _ => ?_)
    | refine zPr.aI (fun _ => ?_)
    | refine zPr.aL (fun _ => ?_)
    | refine zPr.gd ?_
    | refine zPr.bw (S' := sX5_advance) (by assumption) (mX5_advance ..) (fun p hp => by simp only [sX5_advance, sX5_readThinks, List.mem_cons, List.not_mem_nil, or_false] at hp ⊢ <;> omega) (fun _ _ => ?_)
    | refine zPr.bc (S' := sX5_takeHolder) (by assumption) (mX5_takeHolder ..) (fun p hp => by simp only [sX5_takeHolder, sX5_readThinks, List.mem_cons, List.not_mem_nil, or_false] at hp ⊢ <;> omega) (fun _ _ _ => ?_)
    | refine zPr.bc (S' := sX5_takeNumber) (by assumption) (mX5_takeNumber ..) (fun p hp => by simp only [sX5_takeNumber, sX5_readThinks, List.mem_cons, List.not_mem_nil, or_false] at hp ⊢ <;> omega) (fun _ _ _ => ?_)
    | refine zPr.bc (S' := sX5_takeTunnel) (by assumption) (mX5_takeTunnel ..) (fun p hp => by simp only [sX5_takeTunnel, sX5_readThinks, List.mem_cons, List.not_mem_nil, or_false] at hp ⊢ <;> omega) (fun _ _ _ => ?_)
    | refine zPr.bnr (fun _ => ?_)
    | refine zPr.bnv (fun _ => ?_)
def sX5_readGives (t : Bool × Bool × Bool) : List Nat := [rp t.2.2 + 9, 54]
theorem mX5_readGives (σ : zS) : zPr (sX5_readGives σ.2.2) σ id (fX5_readGives σ) := by
  unfold fX5_readGives
  have hc := zSm.rfl (sX5_readGives σ.2.2) σ
  repeat' first
    | exact zPr.none
    | exact zPr.some (by assumption)
    | refine zPr.ite ?_ ?_
    | refine zPr.wI (by assumption) (by simp only [sX5_readGives, List.mem_cons, List.not_mem_nil, or_false]; omega) (fun _ _ => ?_)
    | refine zPr.wL (by assumption) (by simp only [sX5_readGives, List.mem_cons, List.not_mem_nil, or_false]; omega) (fun _ _ => ?_)
    | refine zPr.bI (by assumption) (by simp only [sX5_readGives, List.mem_cons, List.not_mem_nil, or_false]; omega) (fun _ _ => ?_)
    | refine zPr.bL (by assumption) (by simp only [sX5_readGives, List.mem_cons, List.not_mem_nil, or_false]; omega) (fun _ _ => ?_)
    | refine zPr.wC (by assumption) (by simp only [sX5_readGives, List.mem_cons, List.not_mem_nil, or_false]; omega) (fun _ _ => ?_)
    | refine zPr.aI (fun _ => ?_)
    | refine zPr.aL (fun _ => ?_)
    | refine zPr.gd ?_
    | refine zPr.bw (S' := sX5_advance) (by assumption) (mX5_advance ..) (fun p hp => by simp only [sX5_advance, sX5_readGives, List.mem_cons, List.not_mem_nil, or_false] at hp ⊢ <;> omega) (fun _ _ => ?_)
    | refine zPr.bc (S' := sX5_takeHolder) (by assumption) (mX5_takeHolder ..) (fun p hp => by simp only [sX5_takeHolder, sX5_readGives, List.mem_cons, List.not_mem_nil, or_false] at hp ⊢ <;> omega) (fun _ _ _ => ?_)
    | refine zPr.bc (S' := sX5_takeNumber) (by assumption) (mX5_takeNumber ..) (fun p hp => by simp only [sX5_takeNumber, sX5_readGives, List.mem_cons, List.not_mem_nil, or_false] at hp ⊢ <;> omega) (fun _ _ _ => ?_)
    | refine zPr.bnr (fun _ => ?_)
    | refine zPr.bnv (fun _ => ?_)
def sX8_add (b0 : Bool) (t : Bool × Bool × Bool) : List Nat := [rp b0 + 11, rp b0 + 12]
theorem mX8_add_37 (b0 : Bool) (σ : zS) : zPr (sX8_add b0 σ.2.2) σ Prod.snd (fX8_add_37 b0 σ) := by
  unfold fX8_add_37
  have hc := zSm.rfl (sX8_add b0 σ.2.2) σ
  repeat' first
    | exact zPr.none
    | exact zPr.some (by assumption)
    | refine zPr.ite ?_ ?_
    | refine zPr.wI (by assumption) (by simp only [sX8_add, List.mem_cons, List.not_mem_nil, or_false]; omega) (fun _ _ => ?_)
    | refine zPr.wL (by assumption) (by simp only [sX8_add, List.mem_cons, List.not_mem_nil, or_false]; omega) (fun _ _ => ?_)
    | refine zPr.bI (by assumption) (by simp only [sX8_add, List.mem_cons, List.not_mem_nil, or_false]; omega) (fun _ _ => ?_)
    | refine zPr.bL (by assumption) (by simp only [sX8_add, List.mem_cons, List.not_mem_nil, or_false]; omega) (fun _ _ => ?_)
    | refine zPr.wC (by assumption) (by simp only [sX8_add, List.mem_cons, List.not_mem_nil, or_false]; omega) (fun _ _ => ?_)
    | refine zPr.aI (fun _ => ?_)
    | refine zPr.aL (fun _ => ?_)
    | refine zPr.gd ?_
    | refine zPr.bnr (fun _ => ?_)
    | refine zPr.bnv (fun _ => ?_)
theorem mX8_add (b0 : Bool) (p1 : Int32) (p2 : Int32) (σ : zS) : zPr (sX8_add b0 σ.2.2) σ Prod.snd (fX8_add b0 p1 p2 σ) := by
  unfold fX8_add
  have hc := zSm.rfl (sX8_add b0 σ.2.2) σ
  repeat' first
    | exact zPr.none
    | exact zPr.some (by assumption)
    | refine zPr.ite ?_ ?_
    | refine zPr.wI (by assumption) (by simp only [sX8_add, List.mem_cons, List.not_mem_nil, or_false]; omega) (fun _ _ => ?_)
    | refine zPr.wL (by assumption) (by simp only [sX8_add, List.mem_cons, List.not_mem_nil, or_false]; omega) (fun _ _ => ?_)
    | refine zPr.bI (by assumption) (by simp only [sX8_add, List.mem_cons, List.not_mem_nil, or_false]; omega) (fun _ _ => ?_)
    | refine zPr.bL (by assumption) (by simp only [sX8_add, List.mem_cons, List.not_mem_nil, or_false]; omega) (fun _ _ => ?_)
    | refine zPr.wC (by assumption) (by simp only [sX8_add, List.mem_cons, List.not_mem_nil, or_false]; omega) (fun _ _ => ?_)
    | refine zPr.aI (fun _ => ?_)
    | refine zPr.aL (fun _ => ?_)
    | refine zPr.gd ?_
    | refine zPr.bnr (fun _ => ?_)
    | refine zPr.bnv (fun _ => ?_)
    | exact zPr.tail (S' := sX8_add b0) (by assumption) (mX8_add_37 _ ..) (fun _ h => h)
def sX5_isOpened (t : Bool × Bool × Bool) : List Nat := [54]
theorem mX5_isOpened (p1 : Int32) (p2 : Int32) (σ : zS) : zPr (sX5_isOpened σ.2.2) σ Prod.snd (fX5_isOpened p1 p2 σ) := by
  unfold fX5_isOpened
  have hc := zSm.rfl (sX5_isOpened σ.2.2) σ
  repeat' first
    | exact zPr.none
    | exact zPr.some (by assumption)
    | refine zPr.ite ?_ ?_
    | refine zPr.wI (by assumption) (by simp only [sX5_isOpened, List.mem_cons, List.not_mem_nil, or_false]; omega) (fun _ _ => ?_)
    | refine zPr.wL (by assumption) (by simp only [sX5_isOpened, List.mem_cons, List.not_mem_nil, or_false]; omega) (fun _ _ => ?_)
    | refine zPr.bI (by assumption) (by simp only [sX5_isOpened, List.mem_cons, List.not_mem_nil, or_false]; omega) (fun _ _ => ?_)
    | refine zPr.bL (by assumption) (by simp only [sX5_isOpened, List.mem_cons, List.not_mem_nil, or_false]; omega) (fun _ _ => ?_)
    | refine zPr.wC (by assumption) (by simp only [sX5_isOpened, List.mem_cons, List.not_mem_nil, or_false]; omega) (fun _ _ => ?_)
    | refine zPr.aI (fun _ => ?_)
    | refine zPr.aL (fun _ => ?_)
    | refine zPr.gd ?_
    | refine zPr.bw (S' := sX5_advance) (by assumption) (mX5_advance ..) (fun p hp => by simp only [sX5_advance, sX5_isOpened, List.mem_cons, List.not_mem_nil, or_false] at hp ⊢ <;> omega) (fun _ _ => ?_)
    | refine zPr.bw (S' := sX5_fail) (by assumption) (mX5_fail ..) (fun p hp => by simp only [sX5_fail, sX5_isOpened, List.mem_cons, List.not_mem_nil, or_false] at hp ⊢ <;> omega) (fun _ _ => ?_)
    | refine zPr.bnr (fun _ => ?_)
    | refine zPr.bnv (fun _ => ?_)
def sX8_landHere (b0 : Bool) (t : Bool × Bool × Bool) : List Nat := [rp b0 + 12]
theorem mX8_landHere (b0 : Bool) (p1 : Int32) (σ : zS) : zPr (sX8_landHere b0 σ.2.2) σ id (fX8_landHere b0 p1 σ) := by
  unfold fX8_landHere
  have hc := zSm.rfl (sX8_landHere b0 σ.2.2) σ
  repeat' first
    | exact zPr.none
    | exact zPr.some (by assumption)
    | refine zPr.ite ?_ ?_
    | refine zPr.wI (by assumption) (by simp only [sX8_landHere, List.mem_cons, List.not_mem_nil, or_false]; omega) (fun _ _ => ?_)
    | refine zPr.wL (by assumption) (by simp only [sX8_landHere, List.mem_cons, List.not_mem_nil, or_false]; omega) (fun _ _ => ?_)
    | refine zPr.bI (by assumption) (by simp only [sX8_landHere, List.mem_cons, List.not_mem_nil, or_false]; omega) (fun _ _ => ?_)
    | refine zPr.bL (by assumption) (by simp only [sX8_landHere, List.mem_cons, List.not_mem_nil, or_false]; omega) (fun _ _ => ?_)
    | refine zPr.wC (by assumption) (by simp only [sX8_landHere, List.mem_cons, List.not_mem_nil, or_false]; omega) (fun _ _ => ?_)
    | refine zPr.aI (fun _ => ?_)
    | refine zPr.aL (fun _ => ?_)
    | refine zPr.gd ?_
    | refine zPr.bnr (fun _ => ?_)
    | refine zPr.bnv (fun _ => ?_)
def sX5_readBoth (t : Bool × Bool × Bool) : List Nat := [rp t.2.2 + 11, rp t.2.2 + 12, 54]
def sX5_readCompared (t : Bool × Bool × Bool) : List Nat := [rp t.2.2 + 11, rp t.2.2 + 12, 54]
def sX5_readFact (t : Bool × Bool × Bool) : List Nat := [rp t.2.2 + 11, rp t.2.2 + 12, 54]
def sX5_readIf (t : Bool × Bool × Bool) : List Nat := [rp t.2.2 + 11, rp t.2.2 + 12, 54]
def sX5_readNot (t : Bool × Bool × Bool) : List Nat := [rp t.2.2 + 11, rp t.2.2 + 12, 54]
def sX5_readPair (t : Bool × Bool × Bool) : List Nat := [rp t.2.2 + 11, rp t.2.2 + 12, 54]
def sX5_readPart (t : Bool × Bool × Bool) : List Nat := [rp t.2.2 + 11, rp t.2.2 + 12, 54]
def sX5_readProduct (t : Bool × Bool × Bool) : List Nat := [rp t.2.2 + 11, rp t.2.2 + 12, 54]
def sX5_readSum (t : Bool × Bool × Bool) : List Nat := [rp t.2.2 + 11, rp t.2.2 + 12, 54]
def sX5_readTest (t : Bool × Bool × Bool) : List Nat := [rp t.2.2 + 11, rp t.2.2 + 12, 54]
def frGX5_readBoth (g : TGX5_readBoth) : Prop := (∀ (p1 : Int32) (σ : zS), zPr (sX5_readBoth σ.2.2) σ id (g.1 p1 σ)) ∧ (∀ (p1 : Int32) (σ : zS), zPr (sX5_readCompared σ.2.2) σ id (g.2.1 p1 σ)) ∧ (∀ (p1 : Int32) (σ : zS), zPr (sX5_readFact σ.2.2) σ id (g.2.2.1 p1 σ)) ∧ (∀ (p1 : Int32) (σ : zS), zPr (sX5_readIf σ.2.2) σ id (g.2.2.2.1 p1 σ)) ∧ (∀ (p1 : Int32) (σ : zS), zPr (sX5_readNot σ.2.2) σ id (g.2.2.2.2.1 p1 σ)) ∧ (∀ (p1 : Int32) (p2 : Int32) (σ : zS), zPr (sX5_readPair σ.2.2) σ id (g.2.2.2.2.2.1 p1 p2 σ)) ∧ (∀ (p1 : Int32) (σ : zS), zPr (sX5_readPart σ.2.2) σ id (g.2.2.2.2.2.2.1 p1 σ)) ∧ (∀ (p1 : Int32) (σ : zS), zPr (sX5_readProduct σ.2.2) σ id (g.2.2.2.2.2.2.2.1 p1 σ)) ∧ (∀ (p1 : Int32) (σ : zS), zPr (sX5_readSum σ.2.2) σ id (g.2.2.2.2.2.2.2.2.1 p1 σ)) ∧ (∀ (p1 : Int32) (σ : zS), zPr (sX5_readTest σ.2.2) σ id (g.2.2.2.2.2.2.2.2.2 p1 σ))
theorem mX5_readBoth'_7 (g : TGX5_readBoth) (hg : frGX5_readBoth g) : ∀ (fuel : Nat) (x1 : Int32) (x2 : Int32) (σ : zS), zPr (sX5_readBoth σ.2.2) σ id (fX5_readBoth'_7 g fuel x1 x2 σ) := by
  intro fuel
  induction fuel with
  | zero => intro x1 x2 σ; exact zPr.none
  | succ f ih =>
    intro x1 x2 σ
    rw [fX5_readBoth'_7]
    have hc := zSm.rfl (sX5_readBoth σ.2.2) σ
    repeat' first
      | exact zPr.none
      | exact zPr.some (by assumption)
      | refine zPr.ite ?_ ?_
      | refine zPr.wI (by assumption) (by simp only [sX5_readBoth, List.mem_cons, List.not_mem_nil, or_false]; omega) (fun _ _ => ?_)
      | refine zPr.wL (by assumption) (by simp only [sX5_readBoth, List.mem_cons, List.not_mem_nil, or_false]; omega) (fun _ _ => ?_)
      | refine zPr.bI (by assumption) (by simp only [sX5_readBoth, List.mem_cons, List.not_mem_nil, or_false]; omega) (fun _ _ => ?_)
      | refine zPr.bL (by assumption) (by simp only [sX5_readBoth, List.mem_cons, List.not_mem_nil, or_false]; omega) (fun _ _ => ?_)
      | refine zPr.wC (by assumption) (by simp only [sX5_readBoth, List.mem_cons, List.not_mem_nil, or_false]; omega) (fun _ _ => ?_)
      | refine zPr.aI (fun _ => ?_)
      | refine zPr.aL (fun _ => ?_)
      | refine zPr.gd ?_
      | refine zPr.bw (S' := sX5_advance) (by assumption) (mX5_advance ..) (fun p hp => by simp only [sX5_advance, sX5_readBoth, List.mem_cons, List.not_mem_nil, or_false] at hp ⊢ <;> omega) (fun _ _ => ?_)
      | refine zPr.bw (S' := sX5_readFact) (by assumption) (hg.2.2.1 ..) (fun p hp => by simp only [sX5_readFact, sX5_readBoth, List.mem_cons, List.not_mem_nil, or_false] at hp ⊢ <;> omega) (fun _ _ => ?_)
      | refine zPr.bc (S' := sX8_add _) (by assumption) (mX8_add ..) (fun p hp => by simp only [sX8_add, sX5_readBoth, List.mem_cons, List.not_mem_nil, or_false] at hp ⊢ <;> omega) (fun _ _ _ => ?_)
      | refine zPr.bnr (fun _ => ?_)
      | refine zPr.bnv (fun _ => ?_)
      | exact zPr.tail (S' := sX5_readBoth) (by assumption) (ih ..) (fun _ h => h)
theorem mX5_readBoth' (g : TGX5_readBoth) (hg : frGX5_readBoth g) (p1 : Int32) (σ : zS) : zPr (sX5_readBoth σ.2.2) σ id (fX5_readBoth' g p1 σ) := by
  unfold fX5_readBoth'
  have hc := zSm.rfl (sX5_readBoth σ.2.2) σ
  repeat' first
    | exact zPr.none
    | exact zPr.some (by assumption)
    | refine zPr.ite ?_ ?_
    | refine zPr.wI (by assumption) (by simp only [sX5_readBoth, List.mem_cons, List.not_mem_nil, or_false]; omega) (fun _ _ => ?_)
    | refine zPr.wL (by assumption) (by simp only [sX5_readBoth, List.mem_cons, List.not_mem_nil, or_false]; omega) (fun _ _ => ?_)
    | refine zPr.bI (by assumption) (by simp only [sX5_readBoth, List.mem_cons, List.not_mem_nil, or_false]; omega) (fun _ _ => ?_)
    | refine zPr.bL (by assumption) (by simp only [sX5_readBoth, List.mem_cons, List.not_mem_nil, or_false]; omega) (fun _ _ => ?_)
    | refine zPr.wC (by assumption) (by simp only [sX5_readBoth, List.mem_cons, List.not_mem_nil, or_false]; omega) (fun _ _ => ?_)
    | refine zPr.aI (fun _ => ?_)
    | refine zPr.aL (fun _ => ?_)
    | refine zPr.gd ?_
    | refine zPr.bw (S' := sX5_advance) (by assumption) (mX5_advance ..) (fun p hp => by simp only [sX5_advance, sX5_readBoth, List.mem_cons, List.not_mem_nil, or_false] at hp ⊢ <;> omega) (fun _ _ => ?_)
    | refine zPr.bw (S' := sX5_readFact) (by assumption) (hg.2.2.1 ..) (fun p hp => by simp only [sX5_readFact, sX5_readBoth, List.mem_cons, List.not_mem_nil, or_false] at hp ⊢ <;> omega) (fun _ _ => ?_)
    | refine zPr.bc (S' := sX8_add _) (by assumption) (mX8_add ..) (fun p hp => by simp only [sX8_add, sX5_readBoth, List.mem_cons, List.not_mem_nil, or_false] at hp ⊢ <;> omega) (fun _ _ _ => ?_)
    | refine zPr.bnr (fun _ => ?_)
    | refine zPr.bnv (fun _ => ?_)
    | exact zPr.tail (S' := sX5_readBoth) (by assumption) (mX5_readBoth'_7 _ hg ..) (fun _ h => h)
theorem mX5_readCompared'_38 (g : TGX5_readBoth) (hg : frGX5_readBoth g) (x1 : Int32) (x2 : Int32) (σ : zS) : zPr (sX5_readCompared σ.2.2) σ id (fX5_readCompared'_38 g x1 x2 σ) := by
  unfold fX5_readCompared'_38
  have hc := zSm.rfl (sX5_readCompared σ.2.2) σ
  repeat' first
    | exact zPr.none
    | exact zPr.some (by assumption)
    | refine zPr.ite ?_ ?_
    | refine zPr.wI (by assumption) (by simp only [sX5_readCompared, List.mem_cons, List.not_mem_nil, or_false]; omega) (fun _ _ => ?_)
    | refine zPr.wL (by assumption) (by simp only [sX5_readCompared, List.mem_cons, List.not_mem_nil, or_false]; omega) (fun _ _ => ?_)
    | refine zPr.bI (by assumption) (by simp only [sX5_readCompared, List.mem_cons, List.not_mem_nil, or_false]; omega) (fun _ _ => ?_)
    | refine zPr.bL (by assumption) (by simp only [sX5_readCompared, List.mem_cons, List.not_mem_nil, or_false]; omega) (fun _ _ => ?_)
    | refine zPr.wC (by assumption) (by simp only [sX5_readCompared, List.mem_cons, List.not_mem_nil, or_false]; omega) (fun _ _ => ?_)
    | refine zPr.aI (fun _ => ?_)
    | refine zPr.aL (fun _ => ?_)
    | refine zPr.gd ?_
    | refine zPr.bw (S' := sX5_advance) (by assumption) (mX5_advance ..) (fun p hp => by simp only [sX5_advance, sX5_readCompared, List.mem_cons, List.not_mem_nil, or_false] at hp ⊢ <;> omega) (fun _ _ => ?_)
    | refine zPr.bw (S' := sX5_fail) (by assumption) (mX5_fail ..) (fun p hp => by simp only [sX5_fail, sX5_readCompared, List.mem_cons, List.not_mem_nil, or_false] at hp ⊢ <;> omega) (fun _ _ => ?_)
    | refine zPr.bw (S' := sX5_readSum) (by assumption) (hg.2.2.2.2.2.2.2.2.1 ..) (fun p hp => by simp only [sX5_readSum, sX5_readCompared, List.mem_cons, List.not_mem_nil, or_false] at hp ⊢ <;> omega) (fun _ _ => ?_)
    | refine zPr.bc (S' := sX8_add _) (by assumption) (mX8_add ..) (fun p hp => by simp only [sX8_add, sX5_readCompared, List.mem_cons, List.not_mem_nil, or_false] at hp ⊢ <;> omega) (fun _ _ _ => ?_)
    | refine zPr.bnr (fun _ => ?_)
    | refine zPr.bnv (fun _ => ?_)
theorem mX5_readCompared' (g : TGX5_readBoth) (hg : frGX5_readBoth g) (p1 : Int32) (σ : zS) : zPr (sX5_readCompared σ.2.2) σ id (fX5_readCompared' g p1 σ) := by
  unfold fX5_readCompared'
  have hc := zSm.rfl (sX5_readCompared σ.2.2) σ
  repeat' first
    | exact zPr.none
    | exact zPr.some (by assumption)
    | refine zPr.ite ?_ ?_
    | refine zPr.wI (by assumption) (by simp only [sX5_readCompared, List.mem_cons, List.not_mem_nil, or_false]; omega) (fun _ _ => ?_)
    | refine zPr.wL (by assumption) (by simp only [sX5_readCompared, List.mem_cons, List.not_mem_nil, or_false]; omega) (fun _ _ => ?_)
    | refine zPr.bI (by assumption) (by simp only [sX5_readCompared, List.mem_cons, List.not_mem_nil, or_false]; omega) (fun _ _ => ?_)
    | refine zPr.bL (by assumption) (by simp only [sX5_readCompared, List.mem_cons, List.not_mem_nil, or_false]; omega) (fun _ _ => ?_)
    | refine zPr.wC (by assumption) (by simp only [sX5_readCompared, List.mem_cons, List.not_mem_nil, or_false]; omega) (fun _ _ => ?_)
    | refine zPr.aI (fun _ => ?_)
    | refine zPr.aL (fun _ => ?_)
    | refine zPr.gd ?_
    | refine zPr.bw (S' := sX5_advance) (by assumption) (mX5_advance ..) (fun p hp => by simp only [sX5_advance, sX5_readCompared, List.mem_cons, List.not_mem_nil, or_false] at hp ⊢ <;> omega) (fun _ _ => ?_)
    | refine zPr.bw (S' := sX5_fail) (by assumption) (mX5_fail ..) (fun p hp => by simp only [sX5_fail, sX5_readCompared, List.mem_cons, List.not_mem_nil, or_false] at hp ⊢ <;> omega) (fun _ _ => ?_)
    | refine zPr.bw (S' := sX5_readSum) (by assumption) (hg.2.2.2.2.2.2.2.2.1 ..) (fun p hp => by simp only [sX5_readSum, sX5_readCompared, List.mem_cons, List.not_mem_nil, or_false] at hp ⊢ <;> omega) (fun _ _ => ?_)
    | refine zPr.bc (S' := sX8_add _) (by assumption) (mX8_add ..) (fun p hp => by simp only [sX8_add, sX5_readCompared, List.mem_cons, List.not_mem_nil, or_false] at hp ⊢ <;> omega) (fun _ _ _ => ?_)
    | refine zPr.bnr (fun _ => ?_)
    | refine zPr.bnv (fun _ => ?_)
    | exact zPr.tail (S' := sX5_readCompared) (by assumption) (mX5_readCompared'_38 _ hg ..) (fun _ h => h)
theorem mX5_readFact' (g : TGX5_readBoth) (hg : frGX5_readBoth g) (p1 : Int32) (σ : zS) : zPr (sX5_readFact σ.2.2) σ id (fX5_readFact' g p1 σ) := by
  unfold fX5_readFact'
  have hc := zSm.rfl (sX5_readFact σ.2.2) σ
  repeat' first
    | exact zPr.none
    | exact zPr.some (by assumption)
    | refine zPr.ite ?_ ?_
    | refine zPr.wI (by assumption) (by simp only [sX5_readFact, List.mem_cons, List.not_mem_nil, or_false]; omega) (fun _ _ => ?_)
    | refine zPr.wL (by assumption) (by simp only [sX5_readFact, List.mem_cons, List.not_mem_nil, or_false]; omega) (fun _ _ => ?_)
    | refine zPr.bI (by assumption) (by simp only [sX5_readFact, List.mem_cons, List.not_mem_nil, or_false]; omega) (fun _ _ => ?_)
    | refine zPr.bL (by assumption) (by simp only [sX5_readFact, List.mem_cons, List.not_mem_nil, or_false]; omega) (fun _ _ => ?_)
    | refine zPr.wC (by assumption) (by simp only [sX5_readFact, List.mem_cons, List.not_mem_nil, or_false]; omega) (fun _ _ => ?_)
    | refine zPr.aI (fun _ => ?_)
    | refine zPr.aL (fun _ => ?_)
    | refine zPr.gd ?_
    | refine zPr.bw (S' := sX5_advance) (by assumption) (mX5_advance ..) (fun p hp => by simp only [sX5_advance, sX5_readFact, List.mem_cons, List.not_mem_nil, or_false] at hp ⊢ <;> omega) (fun _ _ => ?_)
    | refine zPr.bc (S' := sX5_isOpened) (by assumption) (mX5_isOpened ..) (fun p hp => by simp only [sX5_isOpened, sX5_readFact, List.mem_cons, List.not_mem_nil, or_false] at hp ⊢ <;> omega) (fun _ _ _ => ?_)
    | refine zPr.bw (S' := sX5_readCompared) (by assumption) (hg.2.1 ..) (fun p hp => by simp only [sX5_readCompared, sX5_readFact, List.mem_cons, List.not_mem_nil, or_false] at hp ⊢ <;> omega) (fun _ _ => ?_)
    | refine zPr.bw (S' := sX5_readNot) (by assumption) (hg.2.2.2.2.1 ..) (fun p hp => by simp only [sX5_readNot, sX5_readFact, List.mem_cons, List.not_mem_nil, or_false] at hp ⊢ <;> omega) (fun _ _ => ?_)
    | refine zPr.bw (S' := sX5_readTest) (by assumption) (hg.2.2.2.2.2.2.2.2.2 ..) (fun p hp => by simp only [sX5_readTest, sX5_readFact, List.mem_cons, List.not_mem_nil, or_false] at hp ⊢ <;> omega) (fun _ _ => ?_)
    | refine zPr.bw (S' := sX5_takeSign) (by assumption) (mX5_takeSign ..) (fun p hp => by simp only [sX5_takeSign, sX5_readFact, List.mem_cons, List.not_mem_nil, or_false] at hp ⊢ <;> omega) (fun _ _ => ?_)
    | refine zPr.bc (S' := sX8_add _) (by assumption) (mX8_add ..) (fun p hp => by simp only [sX8_add, sX5_readFact, List.mem_cons, List.not_mem_nil, or_false] at hp ⊢ <;> omega) (fun _ _ _ => ?_)
    | refine zPr.bnr (fun _ => ?_)
    | refine zPr.bnv (fun _ => ?_)
theorem mX5_readIf' (g : TGX5_readBoth) (hg : frGX5_readBoth g) (p1 : Int32) (σ : zS) : zPr (sX5_readIf σ.2.2) σ id (fX5_readIf' g p1 σ) := by
  unfold fX5_readIf'
  have hc := zSm.rfl (sX5_readIf σ.2.2) σ
  repeat' first
    | exact zPr.none
    | exact zPr.some (by assumption)
    | refine zPr.ite ?_ ?_
    | refine zPr.wI (by assumption) (by simp only [sX5_readIf, List.mem_cons, List.not_mem_nil, or_false]; omega) (fun _ _ => ?_)
    | refine zPr.wL (by assumption) (by simp only [sX5_readIf, List.mem_cons, List.not_mem_nil, or_false]; omega) (fun _ _ => ?_)
    | refine zPr.bI (by assumption) (by simp only [sX5_readIf, List.mem_cons, List.not_mem_nil, or_false]; omega) (fun _ _ => ?_)
    | refine zPr.bL (by assumption) (by simp only [sX5_readIf, List.mem_cons, List.not_mem_nil, or_false]; omega) (fun _ _ => ?_)
    | refine zPr.wC (by assumption) (by simp only [sX5_readIf, List.mem_cons, List.not_mem_nil, or_false]; omega) (fun _ _ => ?_)
    | refine zPr.aI (fun _ => ?_)
    | refine zPr.aL (fun _ => ?_)
    | refine zPr.gd ?_
    | refine zPr.bw (S' := sX5_advance) (by assumption) (mX5_advance ..) (fun p hp => by simp only [sX5_advance, sX5_readIf, List.mem_cons, List.not_mem_nil, or_false] at hp ⊢ <;> omega) (fun _ _ => ?_)
    | refine zPr.bc (S' := sX5_isOpened) (by assumption) (mX5_isOpened ..) (fun p hp => by simp only [sX5_isOpened, sX5_readIf, List.mem_cons, List.not_mem_nil, or_false] at hp ⊢ <;> omega) (fun _ _ _ => ?_)
    | refine zPr.bw (S' := sX5_readSum) (by assumption) (hg.2.2.2.2.2.2.2.2.1 ..) (fun p hp => by simp only [sX5_readSum, sX5_readIf, List.mem_cons, List.not_mem_nil, or_false] at hp ⊢ <;> omega) (fun _ _ => ?_)
    | refine zPr.bw (S' := sX5_readTest) (by assumption) (hg.2.2.2.2.2.2.2.2.2 ..) (fun p hp => by simp only [sX5_readTest, sX5_readIf, List.mem_cons, List.not_mem_nil, or_false] at hp ⊢ <;> omega) (fun _ _ => ?_)
    | refine zPr.bw (S' := sX5_takeSign) (by assumption) (mX5_takeSign ..) (fun p hp => by simp only [sX5_takeSign, sX5_readIf, List.mem_cons, List.not_mem_nil, or_false] at hp ⊢ <;> omega) (fun _ _ => ?_)
    | refine zPr.bc (S' := sX8_add _) (by assumption) (mX8_add ..) (fun p hp => by simp only [sX8_add, sX5_readIf, List.mem_cons, List.not_mem_nil, or_false] at hp ⊢ <;> omega) (fun _ _ _ => ?_)
    | refine zPr.bw (S' := sX8_landHere _) (by assumption) (mX8_landHere ..) (fun p hp => by simp only [sX8_landHere, sX5_readIf, List.mem_cons, List.not_mem_nil, or_false] at hp ⊢ <;> omega) (fun _ _ => ?_)
    | refine zPr.bnr (fun _ => ?_)
    | refine zPr.bnv (fun _ => ?_)
theorem mX5_readNot' (g : TGX5_readBoth) (hg : frGX5_readBoth g) (p1 : Int32) (σ : zS) : zPr (sX5_readNot σ.2.2) σ id (fX5_readNot' g p1 σ) := by
  unfold fX5_readNot'
  have hc := zSm.rfl (sX5_readNot σ.2.2) σ
  repeat' first
    | exact zPr.none
    | exact zPr.some (by assumption)
    | refine zPr.ite ?_ ?_
    | refine zPr.wI (by assumption) (by simp only [sX5_readNot, List.mem_cons, List.not_mem_nil, or_false]; omega) (fun _ _ => ?_)
    | refine zPr.wL (by assumption) (by simp only [sX5_readNot, List.mem_cons, List.not_mem_nil, or_false]; omega) (fun _ _ => ?_)
    | refine zPr.bI (by assumption) (by simp only [sX5_readNot, List.mem_cons, List.not_mem_nil, or_false]; omega) (fun _ _ => ?_)
    | refine zPr.bL (by assumption) (by simp only [sX5_readNot, List.mem_cons, List.not_mem_nil, or_false]; omega) (fun _ _ => ?_)
    | refine zPr.wC (by assumption) (by simp only [sX5_readNot, List.mem_cons, List.not_mem_nil, or_false]; omega) (fun _ _ => ?_)
    | refine zPr.aI (fun _ => ?_)
    | refine zPr.aL (fun _ => ?_)
    | refine zPr.gd ?_
    | refine zPr.bw (S' := sX5_advance) (by assumption) (mX5_advance ..) (fun p hp => by simp only [sX5_advance, sX5_readNot, List.mem_cons, List.not_mem_nil, or_false] at hp ⊢ <;> omega) (fun _ _ => ?_)
    | refine zPr.bw (S' := sX5_fail) (by assumption) (mX5_fail ..) (fun p hp => by simp only [sX5_fail, sX5_readNot, List.mem_cons, List.not_mem_nil, or_false] at hp ⊢ <;> omega) (fun _ _ => ?_)
    | refine zPr.bw (S' := sX5_readFact) (by assumption) (hg.2.2.1 ..) (fun p hp => by simp only [sX5_readFact, sX5_readNot, List.mem_cons, List.not_mem_nil, or_false] at hp ⊢ <;> omega) (fun _ _ => ?_)
    | refine zPr.bc (S' := sX8_add _) (by assumption) (mX8_add ..) (fun p hp => by simp only [sX8_add, sX5_readNot, List.mem_cons, List.not_mem_nil, or_false] at hp ⊢ <;> omega) (fun _ _ _ => ?_)
    | refine zPr.bnr (fun _ => ?_)
    | refine zPr.bnv (fun _ => ?_)
theorem mX5_readPair' (g : TGX5_readBoth) (hg : frGX5_readBoth g) (p1 : Int32) (p2 : Int32) (σ : zS) : zPr (sX5_readPair σ.2.2) σ id (fX5_readPair' g p1 p2 σ) := by
  unfold fX5_readPair'
  have hc := zSm.rfl (sX5_readPair σ.2.2) σ
  repeat' first
    | exact zPr.none
    | exact zPr.some (by assumption)
    | refine zPr.ite ?_ ?_
    | refine zPr.wI (by assumption) (by simp only [sX5_readPair, List.mem_cons, List.not_mem_nil, or_false]; omega) (fun _ _ => ?_)
    | refine zPr.wL (by assumption) (by simp only [sX5_readPair, List.mem_cons, List.not_mem_nil, or_false]; omega) (fun _ _ => ?_)
    | refine zPr.bI (by assumption) (by simp only [sX5_readPair, List.mem_cons, List.not_mem_nil, or_false]; omega) (fun _ _ => ?_)
    | refine zPr.bL (by assumption) (by simp only [sX5_readPair, List.mem_cons, List.not_mem_nil, or_false]; omega) (fun _ _ => ?_)
    | refine zPr.wC (by assumption) (by simp only [sX5_readPair, List.mem_cons, List.not_mem_nil, or_false]; omega) (fun _ _ => ?_)
    | refine zPr.aI (fun _ => ?_)
    | refine zPr.aL (fun _ => ?_)
    | refine zPr.gd ?_
    | refine zPr.bw (S' := sX5_advance) (by assumption) (mX5_advance ..) (fun p hp => by simp only [sX5_advance, sX5_readPair, List.mem_cons, List.not_mem_nil, or_false] at hp ⊢ <;> omega) (fun _ _ => ?_)
    | refine zPr.bc (S' := sX5_isOpened) (by assumption) (mX5_isOpened ..) (fun p hp => by simp only [sX5_isOpened, sX5_readPair, List.mem_cons, List.not_mem_nil, or_false] at hp ⊢ <;> omega) (fun _ _ _ => ?_)
    | refine zPr.bw (S' := sX5_readSum) (by assumption) (hg.2.2.2.2.2.2.2.2.1 ..) (fun p hp => by simp only [sX5_readSum, sX5_readPair, List.mem_cons, List.not_mem_nil, or_false] at hp ⊢ <;> omega) (fun _ _ => ?_)
    | refine zPr.bw (S' := sX5_takeSign) (by assumption) (mX5_takeSign ..) (fun p hp => by simp only [sX5_takeSign, sX5_readPair, List.mem_cons, List.not_mem_nil, or_false] at hp ⊢ <;> omega) (fun _ _ => ?_)
    | refine zPr.bc (S' := sX8_add _) (by assumption) (mX8_add ..) (fun p hp => by simp only [sX8_add, sX5_readPair, List.mem_cons, List.not_mem_nil, or_false] at hp ⊢ <;> omega) (fun _ _ _ => ?_)
    | refine zPr.bnr (fun _ => ?_)
    | refine zPr.bnv (fun _ => ?_)
theorem mX5_readPart' (g : TGX5_readBoth) (hg : frGX5_readBoth g) (p1 : Int32) (σ : zS) : zPr (sX5_readPart σ.2.2) σ id (fX5_readPart' g p1 σ) := by
  unfold fX5_readPart'
  have hc := zSm.rfl (sX5_readPart σ.2.2) σ
  repeat' first
    | exact zPr.none
    | exact zPr.some (by assumption)
    | refine zPr.ite ?_ ?_
    | refine zPr.wI (by assumption) (by simp only [sX5_readPart, List.mem_cons, List.not_mem_nil, or_false]; omega) (fun _ _ => ?_)
    | refine zPr.wL (by assumption) (by simp only [sX5_readPart, List.mem_cons, List.not_mem_nil, or_false]; omega) (fun _ _ => ?_)
    | refine zPr.bI (by assumption) (by simp only [sX5_readPart, List.mem_cons, List.not_mem_nil, or_false]; omega) (fun _ _ => ?_)
    | refine zPr.bL (by assumption) (by simp only [sX5_readPart, List.mem_cons, List.not_mem_nil, or_false]; omega) (fun _ _ => ?_)
    | refine zPr.wC (by assumption) (by simp only [sX5_readPart, List.mem_cons, List.not_mem_nil, or_false]; omega) (fun _ _ => ?_)
    | refine zPr.aI (fun _ => ?_)
    | refine zPr.aL (fun _ => ?_)
    | refine zPr.gd ?_
    | refine zPr.bw (S' := sX5_advance) (by assumption) (mX5_advance ..) (fun p hp => by simp only [sX5_advance, sX5_readPart, List.mem_cons, List.not_mem_nil, or_false] at hp ⊢ <;> omega) (fun _ _ => ?_)
    | refine zPr.bw (S' := sX5_fail) (by assumption) (mX5_fail ..) (fun p hp => by simp only [sX5_fail, sX5_readPart, List.mem_cons, List.not_mem_nil, or_false] at hp ⊢ <;> omega) (fun _ _ => ?_)
    | refine zPr.bc (S' := sX5_isOpened) (by assumption) (mX5_isOpened ..) (fun p hp => by simp only [sX5_isOpened, sX5_readPart, List.mem_cons, List.not_mem_nil, or_false] at hp ⊢ <;> omega) (fun _ _ _ => ?_)
    | refine zPr.bw (S' := sX5_readIf) (by assumption) (hg.2.2.2.1 ..) (fun p hp => by simp only [sX5_readIf, sX5_readPart, List.mem_cons, List.not_mem_nil, or_false] at hp ⊢ <;> omega) (fun _ _ => ?_)
    | refine zPr.bw (S' := sX5_readPair) (by assumption) (hg.2.2.2.2.2.1 ..) (fun p hp => by simp only [sX5_readPair, sX5_readPart, List.mem_cons, List.not_mem_nil, or_false] at hp ⊢ <;> omega) (fun _ _ => ?_)
    | refine zPr.bw (S' := sX5_readSum) (by assumption) (hg.2.2.2.2.2.2.2.2.1 ..) (fun p hp => by simp only [sX5_readSum, sX5_readPart, List.mem_cons, List.not_mem_nil, or_false] at hp ⊢ <;> omega) (fun _ _ => ?_)
    | refine zPr.bw (S' := sX5_takeSign) (by assumption) (mX5_takeSign ..) (fun p hp => by simp only [sX5_takeSign, sX5_readPart, List.mem_cons, List.not_mem_nil, or_false] at hp ⊢ <;> omega) (fun _ _ => ?_)
    | refine zPr.bc (S' := sX8_add _) (by assumption) (mX8_add ..) (fun p hp => by simp only [sX8_add, sX5_readPart, List.mem_cons, List.not_mem_nil, or_false] at hp ⊢ <;> omega) (fun _ _ _ => ?_)
    | refine zPr.bnr (fun _ => ?_)
    | refine zPr.bnv (fun _ => ?_)
theorem mX5_readProduct'_41 (g : TGX5_readBoth) (hg : frGX5_readBoth g) (r7 : Int32 → Int32 → zS → Option zS) (hr7 : ∀ (x0 : Int32) (x1 : Int32) (σ : zS), zPr (sX5_readProduct σ.2.2) σ id (r7 x0 x1 σ)) (x1 : Int32) (x2 : Int32) (σ : zS) : zPr (sX5_readProduct σ.2.2) σ id (fX5_readProduct'_41 g r7 x1 x2 σ) := by
  unfold fX5_readProduct'_41
  have hc := zSm.rfl (sX5_readProduct σ.2.2) σ
  repeat' first
    | exact zPr.none
    | exact zPr.some (by assumption)
    | refine zPr.ite ?_ ?_
    | refine zPr.wI (by assumption) (by simp only [sX5_readProduct, List.mem_cons, List.not_mem_nil, or_false]; omega) (fun _ _ => ?_)
    | refine zPr.wL (by assumption) (by simp only [sX5_readProduct, List.mem_cons, List.not_mem_nil, or_false]; omega) (fun _ _ => ?_)
    | refine zPr.bI (by assumption) (by simp only [sX5_readProduct, List.mem_cons, List.not_mem_nil, or_false]; omega) (fun _ _ => ?_)
    | refine zPr.bL (by assumption) (by simp only [sX5_readProduct, List.mem_cons, List.not_mem_nil, or_false]; omega) (fun _ _ => ?_)
    | refine zPr.wC (by assumption) (by simp only [sX5_readProduct, List.mem_cons, List.not_mem_nil, or_false]; omega) (fun _ _ => ?_)
    | refine zPr.aI (fun _ => ?_)
    | refine zPr.aL (fun _ => ?_)
    | refine zPr.gd ?_
    | refine zPr.bw (S' := sX5_advance) (by assumption) (mX5_advance ..) (fun p hp => by simp only [sX5_advance, sX5_readProduct, List.mem_cons, List.not_mem_nil, or_false] at hp ⊢ <;> omega) (fun _ _ => ?_)
    | refine zPr.bw (S' := sX5_readPart) (by assumption) (hg.2.2.2.2.2.2.1 ..) (fun p hp => by simp only [sX5_readPart, sX5_readProduct, List.mem_cons, List.not_mem_nil, or_false] at hp ⊢ <;> omega) (fun _ _ => ?_)
    | refine zPr.bc (S' := sX8_add _) (by assumption) (mX8_add ..) (fun p hp => by simp only [sX8_add, sX5_readProduct, List.mem_cons, List.not_mem_nil, or_false] at hp ⊢ <;> omega) (fun _ _ _ => ?_)
    | refine zPr.bnr (fun _ => ?_)
    | refine zPr.bnv (fun _ => ?_)
    | exact zPr.tail (S' := sX5_readProduct) (by assumption) (hr7 ..) (fun _ h => h)
theorem mX5_readProduct'_7 (g : TGX5_readBoth) (hg : frGX5_readBoth g) : ∀ (fuel : Nat) (x1 : Int32) (x2 : Int32) (σ : zS), zPr (sX5_readProduct σ.2.2) σ id (fX5_readProduct'_7 g fuel x1 x2 σ) := by
  intro fuel
  induction fuel with
  | zero => intro x1 x2 σ; exact zPr.none
  | succ f ih =>
    intro x1 x2 σ
    rw [fX5_readProduct'_7]
    have hc := zSm.rfl (sX5_readProduct σ.2.2) σ
    repeat' first
      | exact zPr.none
      | exact zPr.some (by assumption)
      | refine zPr.ite ?_ ?_
      | refine zPr.wI (by assumption) (by simp only [sX5_readProduct, List.mem_cons, List.not_mem_nil, or_false]; omega) (fun _ _ => ?_)
      | refine zPr.wL (by assumption) (by simp only [sX5_readProduct, List.mem_cons, List.not_mem_nil, or_false]; omega) (fun _ _ => ?_)
      | refine zPr.bI (by assumption) (by simp only [sX5_readProduct, List.mem_cons, List.not_mem_nil, or_false]; omega) (fun _ _ => ?_)
      | refine zPr.bL (by assumption) (by simp only [sX5_readProduct, List.mem_cons, List.not_mem_nil, or_false]; omega) (fun _ _ => ?_)
      | refine zPr.wC (by assumption) (by simp only [sX5_readProduct, List.mem_cons, List.not_mem_nil, or_false]; omega) (fun _ _ => ?_)
      | refine zPr.aI (fun _ => ?_)
      | refine zPr.aL (fun _ => ?_)
      | refine zPr.gd ?_
      | refine zPr.bw (S' := sX5_advance) (by assumption) (mX5_advance ..) (fun p hp => by simp only [sX5_advance, sX5_readProduct, List.mem_cons, List.not_mem_nil, or_false] at hp ⊢ <;> omega) (fun _ _ => ?_)
      | refine zPr.bw (S' := sX5_readPart) (by assumption) (hg.2.2.2.2.2.2.1 ..) (fun p hp => by simp only [sX5_readPart, sX5_readProduct, List.mem_cons, List.not_mem_nil, or_false] at hp ⊢ <;> omega) (fun _ _ => ?_)
      | refine zPr.bc (S' := sX8_add _) (by assumption) (mX8_add ..) (fun p hp => by simp only [sX8_add, sX5_readProduct, List.mem_cons, List.not_mem_nil, or_false] at hp ⊢ <;> omega) (fun _ _ _ => ?_)
      | refine zPr.bnr (fun _ => ?_)
      | refine zPr.bnv (fun _ => ?_)
      | exact zPr.tail (S' := sX5_readProduct) (by assumption) (ih ..) (fun _ h => h)
      | exact zPr.tail (S' := sX5_readProduct) (by assumption) (mX5_readProduct'_41 _ hg _ (by first | assumption | exact ih | (intros; apply ih) | (intros; apply mX5_readProduct'_7)) ..) (fun _ h => h)
theorem mX5_readProduct' (g : TGX5_readBoth) (hg : frGX5_readBoth g) (p1 : Int32) (σ : zS) : zPr (sX5_readProduct σ.2.2) σ id (fX5_readProduct' g p1 σ) := by
  unfold fX5_readProduct'
  have hc := zSm.rfl (sX5_readProduct σ.2.2) σ
  repeat' first
    | exact zPr.none
    | exact zPr.some (by assumption)
    | refine zPr.ite ?_ ?_
    | refine zPr.wI (by assumption) (by simp only [sX5_readProduct, List.mem_cons, List.not_mem_nil, or_false]; omega) (fun _ _ => ?_)
    | refine zPr.wL (by assumption) (by simp only [sX5_readProduct, List.mem_cons, List.not_mem_nil, or_false]; omega) (fun _ _ => ?_)
    | refine zPr.bI (by assumption) (by simp only [sX5_readProduct, List.mem_cons, List.not_mem_nil, or_false]; omega) (fun _ _ => ?_)
    | refine zPr.bL (by assumption) (by simp only [sX5_readProduct, List.mem_cons, List.not_mem_nil, or_false]; omega) (fun _ _ => ?_)
    | refine zPr.wC (by assumption) (by simp only [sX5_readProduct, List.mem_cons, List.not_mem_nil, or_false]; omega) (fun _ _ => ?_)
    | refine zPr.aI (fun _ => ?_)
    | refine zPr.aL (fun _ => ?_)
    | refine zPr.gd ?_
    | refine zPr.bw (S' := sX5_advance) (by assumption) (mX5_advance ..) (fun p hp => by simp only [sX5_advance, sX5_readProduct, List.mem_cons, List.not_mem_nil, or_false] at hp ⊢ <;> omega) (fun _ _ => ?_)
    | refine zPr.bw (S' := sX5_readPart) (by assumption) (hg.2.2.2.2.2.2.1 ..) (fun p hp => by simp only [sX5_readPart, sX5_readProduct, List.mem_cons, List.not_mem_nil, or_false] at hp ⊢ <;> omega) (fun _ _ => ?_)
    | refine zPr.bc (S' := sX8_add _) (by assumption) (mX8_add ..) (fun p hp => by simp only [sX8_add, sX5_readProduct, List.mem_cons, List.not_mem_nil, or_false] at hp ⊢ <;> omega) (fun _ _ _ => ?_)
    | refine zPr.bnr (fun _ => ?_)
    | refine zPr.bnv (fun _ => ?_)
    | exact zPr.tail (S' := sX5_readProduct) (by assumption) (mX5_readProduct'_41 _ hg _ (by first | assumption | exact ih | (intros; apply ih) | (intros; apply mX5_readProduct'_7)) ..) (fun _ h => h)
    | exact zPr.tail (S' := sX5_readProduct) (by assumption) (mX5_readProduct'_7 _ hg ..) (fun _ h => h)
theorem mX5_readSum'_32 (g : TGX5_readBoth) (hg : frGX5_readBoth g) (r7 : Int32 → Int32 → zS → Option zS) (hr7 : ∀ (x0 : Int32) (x1 : Int32) (σ : zS), zPr (sX5_readSum σ.2.2) σ id (r7 x0 x1 σ)) (x1 : Int32) (x2 : Int32) (σ : zS) : zPr (sX5_readSum σ.2.2) σ id (fX5_readSum'_32 g r7 x1 x2 σ) := by
  unfold fX5_readSum'_32
  have hc := zSm.rfl (sX5_readSum σ.2.2) σ
  repeat' first
    | exact zPr.none
    | exact zPr.some (by assumption)
    | refine zPr.ite ?_ ?_
    | refine zPr.wI (by assumption) (by simp only [sX5_readSum, List.mem_cons, List.not_mem_nil, or_false]; omega) (fun _ _ => ?_)
    | refine zPr.wL (by assumption) (by simp only [sX5_readSum, List.mem_cons, List.not_mem_nil, or_false]; omega) (fun _ _ => ?_)
    | refine zPr.bI (by assumption) (by simp only [sX5_readSum, List.mem_cons, List.not_mem_nil, or_false]; omega) (fun _ _ => ?_)
    | refine zPr.bL (by assumption) (by simp only [sX5_readSum, List.mem_cons, List.not_mem_nil, or_false]; omega) (fun _ _ => ?_)
    | refine zPr.wC (by assumption) (by simp only [sX5_readSum, List.mem_cons, List.not_mem_nil, or_false]; omega) (fun _ _ => ?_)
    | refine zPr.aI (fun _ => ?_)
    | refine zPr.aL (fun _ => ?_)
    | refine zPr.gd ?_
    | refine zPr.bw (S' := sX5_advance) (by assumption) (mX5_advance ..) (fun p hp => by simp only [sX5_advance, sX5_readSum, List.mem_cons, List.not_mem_nil, or_false] at hp ⊢ <;> omega) (fun _ _ => ?_)
    | refine zPr.bw (S' := sX5_readProduct) (by assumption) (hg.2.2.2.2.2.2.2.1 ..) (fun p hp => by simp only [sX5_readProduct, sX5_readSum, List.mem_cons, List.not_mem_nil, or_false] at hp ⊢ <;> omega) (fun _ _ => ?_)
    | refine zPr.bc (S' := sX8_add _) (by assumption) (mX8_add ..) (fun p hp => by simp only [sX8_add, sX5_readSum, List.mem_cons, List.not_mem_nil, or_false] at hp ⊢ <;> omega) (fun _ _ _ => ?_)
    | refine zPr.bnr (fun _ => ?_)
    | refine zPr.bnv (fun _ => ?_)
    | exact zPr.tail (S' := sX5_readSum) (by assumption) (hr7 ..) (fun _ h => h)
theorem mX5_readSum'_7 (g : TGX5_readBoth) (hg : frGX5_readBoth g) : ∀ (fuel : Nat) (x1 : Int32) (x2 : Int32) (σ : zS), zPr (sX5_readSum σ.2.2) σ id (fX5_readSum'_7 g fuel x1 x2 σ) := by
  intro fuel
  induction fuel with
  | zero => intro x1 x2 σ; exact zPr.none
  | succ f ih =>
    intro x1 x2 σ
    rw [fX5_readSum'_7]
    have hc := zSm.rfl (sX5_readSum σ.2.2) σ
    repeat' first
      | exact zPr.none
      | exact zPr.some (by assumption)
      | refine zPr.ite ?_ ?_
      | refine zPr.wI (by assumption) (by simp only [sX5_readSum, List.mem_cons, List.not_mem_nil, or_false]; omega) (fun _ _ => ?_)
      | refine zPr.wL (by assumption) (by simp only [sX5_readSum, List.mem_cons, List.not_mem_nil, or_false]; omega) (fun _ _ => ?_)
      | refine zPr.bI (by assumption) (by simp only [sX5_readSum, List.mem_cons, List.not_mem_nil, or_false]; omega) (fun _ _ => ?_)
      | refine zPr.bL (by assumption) (by simp only [sX5_readSum, List.mem_cons, List.not_mem_nil, or_false]; omega) (fun _ _ => ?_)
      | refine zPr.wC (by assumption) (by simp only [sX5_readSum, List.mem_cons, List.not_mem_nil, or_false]; omega) (fun _ _ => ?_)
      | refine zPr.aI (fun _ => ?_)
      | refine zPr.aL (fun _ => ?_)
      | refine zPr.gd ?_
      | refine zPr.bw (S' := sX5_advance) (by assumption) (mX5_advance ..) (fun p hp => by simp only [sX5_advance, sX5_readSum, List.mem_cons, List.not_mem_nil, or_false] at hp ⊢ <;> omega) (fun _ _ => ?_)
      | refine zPr.bw (S' := sX5_readProduct) (by assumption) (hg.2.2.2.2.2.2.2.1 ..) (fun p hp => by simp only [sX5_readProduct, sX5_readSum, List.mem_cons, List.not_mem_nil, or_false] at hp ⊢ <;> omega) (fun _ _ => ?_)
      | refine zPr.bc (S' := sX8_add _) (by assumption) (mX8_add ..) (fun p hp => by simp only [sX8_add, sX5_readSum, List.mem_cons, List.not_mem_nil, or_false] at hp ⊢ <;> omega) (fun _ _ _ => ?_)
      | refine zPr.bnr (fun _ => ?_)
      | refine zPr.bnv (fun _ => ?_)
      | exact zPr.tail (S' := sX5_readSum) (by assumption) (ih ..) (fun _ h => h)
      | exact zPr.tail (S' := sX5_readSum) (by assumption) (mX5_readSum'_32 _ hg _ (by first | assumption | exact ih | (intros; apply ih) | (intros; apply mX5_readSum'_7)) ..) (fun _ h => h)
theorem mX5_readSum' (g : TGX5_readBoth) (hg : frGX5_readBoth g) (p1 : Int32) (σ : zS) : zPr (sX5_readSum σ.2.2) σ id (fX5_readSum' g p1 σ) := by
  unfold fX5_readSum'
  have hc := zSm.rfl (sX5_readSum σ.2.2) σ
  repeat' first
    | exact zPr.none
    | exact zPr.some (by assumption)
    | refine zPr.ite ?_ ?_
    | refine zPr.wI (by assumption) (by simp only [sX5_readSum, List.mem_cons, List.not_mem_nil, or_false]; omega) (fun _ _ => ?_)
    | refine zPr.wL (by assumption) (by simp only [sX5_readSum, List.mem_cons, List.not_mem_nil, or_false]; omega) (fun _ _ => ?_)
    | refine zPr.bI (by assumption) (by simp only [sX5_readSum, List.mem_cons, List.not_mem_nil, or_false]; omega) (fun _ _ => ?_)
    | refine zPr.bL (by assumption) (by simp only [sX5_readSum, List.mem_cons, List.not_mem_nil, or_false]; omega) (fun _ _ => ?_)
    | refine zPr.wC (by assumption) (by simp only [sX5_readSum, List.mem_cons, List.not_mem_nil, or_false]; omega) (fun _ _ => ?_)
    | refine zPr.aI (fun _ => ?_)
    | refine zPr.aL (fun _ => ?_)
    | refine zPr.gd ?_
    | refine zPr.bw (S' := sX5_advance) (by assumption) (mX5_advance ..) (fun p hp => by simp only [sX5_advance, sX5_readSum, List.mem_cons, List.not_mem_nil, or_false] at hp ⊢ <;> omega) (fun _ _ => ?_)
    | refine zPr.bw (S' := sX5_readProduct) (by assumption) (hg.2.2.2.2.2.2.2.1 ..) (fun p hp => by simp only [sX5_readProduct, sX5_readSum, List.mem_cons, List.not_mem_nil, or_false] at hp ⊢ <;> omega) (fun _ _ => ?_)
    | refine zPr.bc (S' := sX8_add _) (by assumption) (mX8_add ..) (fun p hp => by simp only [sX8_add, sX5_readSum, List.mem_cons, List.not_mem_nil, or_false] at hp ⊢ <;> omega) (fun _ _ _ => ?_)
    | refine zPr.bnr (fun _ => ?_)
    | refine zPr.bnv (fun _ => ?_)
    | exact zPr.tail (S' := sX5_readSum) (by assumption) (mX5_readSum'_32 _ hg _ (by first | assumption | exact ih | (intros; apply ih) | (intros; apply mX5_readSum'_7)) ..) (fun _ h => h)
    | exact zPr.tail (S' := sX5_readSum) (by assumption) (mX5_readSum'_7 _ hg ..) (fun _ h => h)
theorem mX5_readTest'_7 (g : TGX5_readBoth) (hg : frGX5_readBoth g) : ∀ (fuel : Nat) (x1 : Int32) (x2 : Int32) (σ : zS), zPr (sX5_readTest σ.2.2) σ id (fX5_readTest'_7 g fuel x1 x2 σ) := by
  intro fuel
  induction fuel with
  | zero => intro x1 x2 σ; exact zPr.none
  | succ f ih =>
    intro x1 x2 σ
    rw [fX5_readTest'_7]
    have hc := zSm.rfl (sX5_readTest σ.2.2) σ
    repeat' first
      | exact zPr.none
      | exact zPr.some (by assumption)
      | refine zPr.ite ?_ ?_
      | refine zPr.wI (by assumption) (by simp only [sX5_readTest, List.mem_cons, List.not_mem_nil, or_false]; omega) (fun _ _ => ?_)
      | refine zPr.wL (by assumption) (by simp only [sX5_readTest, List.mem_cons, List.not_mem_nil, or_false]; omega) (fun _ _ => ?_)
      | refine zPr.bI (by assumption) (by simp only [sX5_readTest, List.mem_cons, List.not_mem_nil, or_false]; omega) (fun _ _ => ?_)
      | refine zPr.bL (by assumption) (by simp only [sX5_readTest, List.mem_cons, List.not_mem_nil, or_false]; omega) (fun _ _ => ?_)
      | refine zPr.wC (by assumption) (by simp only [sX5_readTest, List.mem_cons, List.not_mem_nil, or_false]; omega) (fun _ _ => ?_)
      | refine zPr.aI (fun _ => ?_)
      | refine zPr.aL (fun _ => ?_)
      | refine zPr.gd ?_
      | refine zPr.bw (S' := sX5_advance) (by assumption) (mX5_advance ..) (fun p hp => by simp only [sX5_advance, sX5_readTest, List.mem_cons, List.not_mem_nil, or_false] at hp ⊢ <;> omega) (fun _ _ => ?_)
      | refine zPr.bw (S' := sX5_readBoth) (by assumption) (hg.1 ..) (fun p hp => by simp only [sX5_readBoth, sX5_readTest, List.mem_cons, List.not_mem_nil, or_false] at hp ⊢ <;> omega) (fun _ _ => ?_)
      | refine zPr.bc (S' := sX8_add _) (by assumption) (mX8_add ..) (fun p hp => by simp only [sX8_add, sX5_readTest, List.mem_cons, List.not_mem_nil, or_false] at hp ⊢ <;> omega) (fun _ _ _ => ?_)
      | refine zPr.bnr (fun _ => ?_)
      | refine zPr.bnv (fun _ => ?_)
      | exact zPr.tail (S' := sX5_readTest) (by assumption) (ih ..) (fun _ h => h)
theorem mX5_readTest' (g : TGX5_readBoth) (hg : frGX5_readBoth g) (p1 : Int32) (σ : zS) : zPr (sX5_readTest σ.2.2) σ id (fX5_readTest' g p1 σ) := by
  unfold fX5_readTest'
  have hc := zSm.rfl (sX5_readTest σ.2.2) σ
  repeat' first
    | exact zPr.none
    | exact zPr.some (by assumption)
    | refine zPr.ite ?_ ?_
    | refine zPr.wI (by assumption) (by simp only [sX5_readTest, List.mem_cons, List.not_mem_nil, or_false]; omega) (fun _ _ => ?_)
    | refine zPr.wL (by assumption) (by simp only [sX5_readTest, List.mem_cons, List.not_mem_nil, or_false]; omega) (fun _ _ => ?_)
    | refine zPr.bI (by assumption) (by simp only [sX5_readTest, List.mem_cons, List.not_mem_nil, or_false]; omega) (fun _ _ => ?_)
    | refine zPr.bL (by assumption) (by simp only [sX5_readTest, List.mem_cons, List.not_mem_nil, or_false]; omega) (fun _ _ => ?_)
    | refine zPr.wC (by assumption) (by simp only [sX5_readTest, List.mem_cons, List.not_mem_nil, or_false]; omega) (fun _ _ => ?_)
    | refine zPr.aI (fun _ => ?_)
    | refine zPr.aL (fun _ => ?_)
    | refine zPr.gd ?_
    | refine zPr.bw (S' := sX5_advance) (by assumption) (mX5_advance ..) (fun p hp => by simp only [sX5_advance, sX5_readTest, List.mem_cons, List.not_mem_nil, or_false] at hp ⊢ <;> omega) (fun _ _ => ?_)
    | refine zPr.bw (S' := sX5_readBoth) (by assumption) (hg.1 ..) (fun p hp => by simp only [sX5_readBoth, sX5_readTest, List.mem_cons, List.not_mem_nil, or_false] at hp ⊢ <;> omega) (fun _ _ => ?_)
    | refine zPr.bc (S' := sX8_add _) (by assumption) (mX8_add ..) (fun p hp => by simp only [sX8_add, sX5_readTest, List.mem_cons, List.not_mem_nil, or_false] at hp ⊢ <;> omega) (fun _ _ _ => ?_)
    | refine zPr.bnr (fun _ => ?_)
    | refine zPr.bnv (fun _ => ?_)
    | exact zPr.tail (S' := sX5_readTest) (by assumption) (mX5_readTest'_7 _ hg ..) (fun _ h => h)
theorem gfrGX5_readBoth : ∀ n, frGX5_readBoth (ggGX5_readBoth n)
  | 0 => ⟨fun _ _ => zPr.none, fun _ _ => zPr.none, fun _ _ => zPr.none, fun _ _ => zPr.none, fun _ _ => zPr.none, fun _ _ _ => zPr.none, fun _ _ => zPr.none, fun _ _ => zPr.none, fun _ _ => zPr.none, fun _ _ => zPr.none⟩
  | n + 1 => ⟨fun p1 σ => mX5_readBoth' (ggGX5_readBoth n) (gfrGX5_readBoth n) p1 σ, fun p1 σ => mX5_readCompared' (ggGX5_readBoth n) (gfrGX5_readBoth n) p1 σ, fun p1 σ => mX5_readFact' (ggGX5_readBoth n) (gfrGX5_readBoth n) p1 σ, fun p1 σ => mX5_readIf' (ggGX5_readBoth n) (gfrGX5_readBoth n) p1 σ, fun p1 σ => mX5_readNot' (ggGX5_readBoth n) (gfrGX5_readBoth n) p1 σ, fun p1 p2 σ => mX5_readPair' (ggGX5_readBoth n) (gfrGX5_readBoth n) p1 p2 σ, fun p1 σ => mX5_readPart' (ggGX5_readBoth n) (gfrGX5_readBoth n) p1 σ, fun p1 σ => mX5_readProduct' (ggGX5_readBoth n) (gfrGX5_readBoth n) p1 σ, fun p1 σ => mX5_readSum' (ggGX5_readBoth n) (gfrGX5_readBoth n) p1 σ, fun p1 σ => mX5_readTest' (ggGX5_readBoth n) (gfrGX5_readBoth n) p1 σ⟩
theorem mX5_readBoth (n : Nat) (p1 : Int32) (σ : zS) : zPr (sX5_readBoth σ.2.2) σ id (fX5_readBoth n p1 σ) := (gfrGX5_readBoth n).1 p1 σ
theorem mX5_readCompared (n : Nat) (p1 : Int32) (σ : zS) : zPr (sX5_readCompared σ.2.2) σ id (fX5_readCompared n p1 σ) := (gfrGX5_readBoth n).2.1 p1 σ
theorem mX5_readFact (n : Nat) (p1 : Int32) (σ : zS) : zPr (sX5_readFact σ.2.2) σ id (fX5_readFact n p1 σ) := (gfrGX5_readBoth n).2.2.1 p1 σ
theorem mX5_readIf (n : Nat) (p1 : Int32) (σ : zS) : zPr (sX5_readIf σ.2.2) σ id (fX5_readIf n p1 σ) := (gfrGX5_readBoth n).2.2.2.1 p1 σ
theorem mX5_readNot (n : Nat) (p1 : Int32) (σ : zS) : zPr (sX5_readNot σ.2.2) σ id (fX5_readNot n p1 σ) := (gfrGX5_readBoth n).2.2.2.2.1 p1 σ
theorem mX5_readPair (n : Nat) (p1 : Int32) (p2 : Int32) (σ : zS) : zPr (sX5_readPair σ.2.2) σ id (fX5_readPair n p1 p2 σ) := (gfrGX5_readBoth n).2.2.2.2.2.1 p1 p2 σ
theorem mX5_readPart (n : Nat) (p1 : Int32) (σ : zS) : zPr (sX5_readPart σ.2.2) σ id (fX5_readPart n p1 σ) := (gfrGX5_readBoth n).2.2.2.2.2.2.1 p1 σ
theorem mX5_readProduct (n : Nat) (p1 : Int32) (σ : zS) : zPr (sX5_readProduct σ.2.2) σ id (fX5_readProduct n p1 σ) := (gfrGX5_readBoth n).2.2.2.2.2.2.2.1 p1 σ
theorem mX5_readSum (n : Nat) (p1 : Int32) (σ : zS) : zPr (sX5_readSum σ.2.2) σ id (fX5_readSum n p1 σ) := (gfrGX5_readBoth n).2.2.2.2.2.2.2.2.1 p1 σ
theorem mX5_readTest (n : Nat) (p1 : Int32) (σ : zS) : zPr (sX5_readTest σ.2.2) σ id (fX5_readTest n p1 σ) := (gfrGX5_readBoth n).2.2.2.2.2.2.2.2.2 p1 σ
def sX5_readTold (t : Bool × Bool × Bool) : List Nat := [rp t.2.2 + 11, rp t.2.2 + 12, rp t.2.2 + 14, rp t.2.2 + 15, 54]
theorem mX5_readTold (p1 : Int32) (σ : zS) : zPr (sX5_readTold σ.2.2) σ id (fX5_readTold p1 σ) := by
  unfold fX5_readTold
  have hc := zSm.rfl (sX5_readTold σ.2.2) σ
  repeat' first
    | exact zPr.none
    | exact zPr.some (by assumption)
    | refine zPr.ite ?_ ?_
    | refine zPr.wI (by assumption) (by simp only [sX5_readTold, List.mem_cons, List.not_mem_nil, or_false]; omega) (fun _ _ => ?_)
    | refine zPr.wL (by assumption) (by simp only [sX5_readTold, List.mem_cons, List.not_mem_nil, or_false]; omega) (fun _ _ => ?_)
    | refine zPr.bI (by assumption) (by simp only [sX5_readTold, List.mem_cons, List.not_mem_nil, or_false]; omega) (fun _ _ => ?_)
    | refine zPr.bL (by assumption) (by simp only [sX5_readTold, List.mem_cons, List.not_mem_nil, or_false]; omega) (fun _ _ => ?_)
    | refine zPr.wC (by assumption) (by simp only [sX5_readTold, List.mem_cons, List.not_mem_nil, or_false]; omega) (fun _ _ => ?_)
    | refine zPr.aI (fun _ => ?_)
    | refine zPr.aL (fun _ => ?_)
    | refine zPr.gd ?_
    | refine zPr.bw (S' := sX5_advance) (by assumption) (mX5_advance ..) (fun p hp => by simp only [sX5_advance, sX5_readTold, List.mem_cons, List.not_mem_nil, or_false] at hp ⊢ <;> omega) (fun _ _ => ?_)
    | refine zPr.bw (S' := sX5_fail) (by assumption) (mX5_fail ..) (fun p hp => by simp only [sX5_fail, sX5_readTold, List.mem_cons, List.not_mem_nil, or_false] at hp ⊢ <;> omega) (fun _ _ => ?_)
    | refine zPr.bw (S' := sX5_readSum) (by assumption) (mX5_readSum ..) (fun p hp => by simp only [sX5_readSum, sX5_readTold, List.mem_cons, List.not_mem_nil, or_false] at hp ⊢ <;> omega) (fun _ _ => ?_)
    | refine zPr.bnr (fun _ => ?_)
    | refine zPr.bnv (fun _ => ?_)
def sX5_readStatement (t : Bool × Bool × Bool) : List Nat := [rp t.2.2 + 0, rp t.2.2 + 1, rp t.2.2 + 10, rp t.2.2 + 11, rp t.2.2 + 12, rp t.2.2 + 14, rp t.2.2 + 15, rp t.2.2 + 2, rp t.2.2 + 3, rp t.2.2 + 4, rp t.2.2 + 5, rp t.2.2 + 6, rp t.2.2 + 7, rp t.2.2 + 8, rp t.2.2 + 9, 54]
theorem mX5_readStatement_188 (σ : zS) : zPr (sX5_readStatement σ.2.2) σ id (fX5_readStatement_188 σ) := by
  unfold fX5_readStatement_188
  have hc := zSm.rfl (sX5_readStatement σ.2.2) σ
  repeat' first
    | exact zPr.none
    | exact zPr.some (by assumption)
    | refine zPr.ite ?_ ?_
    | refine zPr.wI (by assumption) (by simp only [sX5_readStatement, List.mem_cons, List.not_mem_nil, or_false]; omega) (fun _ _ => ?_)
    | refine zPr.wL (by assumption) (by simp only [sX5_readStatement, List.mem_cons, List.not_mem_nil, or_false]; omega) (fun _ _ => ?_)
    | refine zPr.bI (by assumption) (by simp only [sX5_readStatement, List.mem_cons, List.not_mem_nil, or_false]; omega) (fun _ _ => ?_)
    | refine zPr.bL (by assumption) (by simp only [sX5_readStatement, List.mem_cons, List.not_mem_nil, or_false]; omega) (fun _ _ => ?_)
    | refine zPr.wC (by assumption) (by simp only [sX5_readStatement, List.mem_cons, List.not_mem_nil, or_false]; omega) (fun _ _ => ?_)
    | refine zPr.aI (fun _ => ?_)
    | refine zPr.aL (fun _ => ?_)
    | refine zPr.gd ?_
    | refine zPr.bw (S' := sX5_advance) (by assumption) (mX5_advance ..) (fun p hp => by simp only [sX5_advance, sX5_readStatement, List.mem_cons, List.not_mem_nil, or_false] at hp ⊢ <;> omega) (fun _ _ => ?_)
    | refine zPr.bw (S' := sX5_fail) (by assumption) (mX5_fail ..) (fun p hp => by simp only [sX5_fail, sX5_readStatement, List.mem_cons, List.not_mem_nil, or_false] at hp ⊢ <;> omega) (fun _ _ => ?_)
    | refine zPr.bw (S' := sX5_readGives) (by assumption) (mX5_readGives ..) (fun p hp => by simp only [sX5_readGives, sX5_readStatement, List.mem_cons, List.not_mem_nil, or_false] at hp ⊢ <;> omega) (fun _ _ => ?_)
    | refine zPr.bw (S' := sX5_readHolder) (by assumption) (mX5_readHolder ..) (fun p hp => by simp only [sX5_readHolder, sX5_readStatement, List.mem_cons, List.not_mem_nil, or_false] at hp ⊢ <;> omega) (fun _ _ => ?_)
    | refine zPr.bw (S' := sX5_readThinks) (by assumption) (mX5_readThinks ..) (fun p hp => by simp only [sX5_readThinks, sX5_readStatement, List.mem_cons, List.not_mem_nil, or_false] at hp ⊢ <;> omega) (fun _ _ => ?_)
    | refine zPr.bw (S' := sX5_readTold) (by assumption) (mX5_readTold ..) (fun p hp => by simp only [sX5_readTold, sX5_readStatement, List.mem_cons, List.not_mem_nil, or_false] at hp ⊢ <;> omega) (fun _ _ => ?_)
    | refine zPr.bw (S' := sX5_readTunnel) (by assumption) (mX5_readTunnel ..) (fun p hp => by simp only [sX5_readTunnel, sX5_readStatement, List.mem_cons, List.not_mem_nil, or_false] at hp ⊢ <;> omega) (fun _ _ => ?_)
    | refine zPr.bc (S' := sX5_takeNumber) (by assumption) (mX5_takeNumber ..) (fun p hp => by simp only [sX5_takeNumber, sX5_readStatement, List.mem_cons, List.not_mem_nil, or_false] at hp ⊢ <;> omega) (fun _ _ _ => ?_)
    | refine zPr.bw (S' := sX5_takeSign) (by assumption) (mX5_takeSign ..) (fun p hp => by simp only [sX5_takeSign, sX5_readStatement, List.mem_cons, List.not_mem_nil, or_false] at hp ⊢ <;> omega) (fun _ _ => ?_)
    | refine zPr.bnr (fun _ => ?_)
    | refine zPr.bnv (fun _ => ?_)
theorem mX5_readStatement (σ : zS) : zPr (sX5_readStatement σ.2.2) σ id (fX5_readStatement σ) := by
  unfold fX5_readStatement
  have hc := zSm.rfl (sX5_readStatement σ.2.2) σ
  repeat' first
    | exact zPr.none
    | exact zPr.some (by assumption)
    | refine zPr.ite ?_ ?_
    | refine zPr.wI (by assumption) (by simp only [sX5_readStatement, List.mem_cons, List.not_mem_nil, or_false]; omega) (fun _ _ => ?_)
    | refine zPr.wL (by assumption) (by simp only [sX5_readStatement, List.mem_cons, List.not_mem_nil, or_false]; omega) (fun _ _ => ?_)
    | refine zPr.bI (by assumption) (by simp only [sX5_readStatement, List.mem_cons, List.not_mem_nil, or_false]; omega) (fun _ _ => ?_)
    | refine zPr.bL (by assumption) (by simp only [sX5_readStatement, List.mem_cons, List.not_mem_nil, or_false]; omega) (fun _ _ => ?_)
    | refine zPr.wC (by assumption) (by simp only [sX5_readStatement, List.mem_cons, List.not_mem_nil, or_false]; omega) (fun _ _ => ?_)
    | refine zPr.aI (fun _ => ?_)
    | refine zPr.aL (fun _ => ?_)
    | refine zPr.gd ?_
    | refine zPr.bw (S' := sX5_advance) (by assumption) (mX5_advance ..) (fun p hp => by simp only [sX5_advance, sX5_readStatement, List.mem_cons, List.not_mem_nil, or_false] at hp ⊢ <;> omega) (fun _ _ => ?_)
    | refine zPr.bw (S' := sX5_fail) (by assumption) (mX5_fail ..) (fun p hp => by simp only [sX5_fail, sX5_readStatement, List.mem_cons, List.not_mem_nil, or_false] at hp ⊢ <;> omega) (fun _ _ => ?_)
    | refine zPr.bw (S' := sX5_readGives) (by assumption) (mX5_readGives ..) (fun p hp => by simp only [sX5_readGives, sX5_readStatement, List.mem_cons, List.not_mem_nil, or_false] at hp ⊢ <;> omega) (fun _ _ => ?_)
    | refine zPr.bw (S' := sX5_readHolder) (by assumption) (mX5_readHolder ..) (fun p hp => by simp only [sX5_readHolder, sX5_readStatement, List.mem_cons, List.not_mem_nil, or_false] at hp ⊢ <;> omega) (fun _ _ => ?_)
    | refine zPr.bw (S' := sX5_readThinks) (by assumption) (mX5_readThinks ..) (fun p hp => by simp only [sX5_readThinks, sX5_readStatement, List.mem_cons, List.not_mem_nil, or_false] at hp ⊢ <;> omega) (fun _ _ => ?_)
    | refine zPr.bw (S' := sX5_readTold) (by assumption) (mX5_readTold ..) (fun p hp => by simp only [sX5_readTold, sX5_readStatement, List.mem_cons, List.not_mem_nil, or_false] at hp ⊢ <;> omega) (fun _ _ => ?_)
    | refine zPr.bw (S' := sX5_readTunnel) (by assumption) (mX5_readTunnel ..) (fun p hp => by simp only [sX5_readTunnel, sX5_readStatement, List.mem_cons, List.not_mem_nil, or_false] at hp ⊢ <;> omega) (fun _ _ => ?_)
    | refine zPr.bc (S' := sX5_takeNumber) (by assumption) (mX5_takeNumber ..) (fun p hp => by simp only [sX5_takeNumber, sX5_readStatement, List.mem_cons, List.not_mem_nil, or_false] at hp ⊢ <;> omega) (fun _ _ _ => ?_)
    | refine zPr.bw (S' := sX5_takeSign) (by assumption) (mX5_takeSign ..) (fun p hp => by simp only [sX5_takeSign, sX5_readStatement, List.mem_cons, List.not_mem_nil, or_false] at hp ⊢ <;> omega) (fun _ _ => ?_)
    | refine zPr.bnr (fun _ => ?_)
    | refine zPr.bnv (fun _ => ?_)
    | exact zPr.tail (S' := sX5_readStatement) (by assumption) (mX5_readStatement_188 ..) (fun _ h => h)
def sX4_allHold (t : Bool × Bool × Bool) : List Nat := [25]
theorem mX4_allHold_2 : ∀ (fuel : Nat) (x1 : Int32) (x2 : Int32) (x3 : Int32) (σ : zS), zPr (sX4_allHold σ.2.2) σ id (fX4_allHold_2 fuel x1 x2 x3 σ) := by
  intro fuel
  induction fuel with
  | zero => intro x1 x2 x3 σ; exact zPr.none
  | succ f ih =>
    intro x1 x2 x3 σ
    rw [fX4_allHold_2]
    have hc := zSm.rfl (sX4_allHold σ.2.2) σ
    repeat' first
      | exact zPr.none
      | exact zPr.some (by assumption)
      | refine zPr.ite ?_ ?_
      | refine zPr.wI (by assumption) (by simp only [sX4_allHold, List.mem_cons, List.not_mem_nil, or_false]; omega) (fun _ _ => ?_)
      | refine zPr.wL (by assumption) (by simp only [sX4_allHold, List.mem_cons, List.not_mem_nil, or_false]; omega) (fun _ _ => ?_)
      | refine zPr.bI (by assumption) (by simp only [sX4_allHold, List.mem_cons, List.not_mem_nil, or_false]; omega) (fun _ _ => ?_)
      | refine zPr.bL (by assumption) (by simp only [sX4_allHold, List.mem_cons, List.not_mem_nil, or_false]; omega) (fun _ _ => ?_)
      | refine zPr.wC (by assumption) (by simp only [sX4_allHold, List.mem_cons, List.not_mem_nil, or_false]; omega) (fun _ _ => ?_)
      | refine zPr.aI (fun _ => ?_)
      | refine zPr.aL (fun _ => ?_)
      | refine zPr.gd ?_
      | refine zPr.bnr (fun _ => ?_)
      | refine zPr.bnv (fun _ => ?_)
      | exact zPr.tail (S' := sX4_allHold) (by assumption) (ih ..) (fun _ h => h)
theorem mX4_allHold (p1 : Int32) (p2 : Int32) (σ : zS) : zPr (sX4_allHold σ.2.2) σ id (fX4_allHold p1 p2 σ) := by
  unfold fX4_allHold
  have hc := zSm.rfl (sX4_allHold σ.2.2) σ
  repeat' first
    | exact zPr.none
    | exact zPr.some (by assumption)
    | refine zPr.ite ?_ ?_
    | refine zPr.wI (by assumption) (by simp only [sX4_allHold, List.mem_cons, List.not_mem_nil, or_false]; omega) (fun _ _ => ?_)
    | refine zPr.wL (by assumption) (by simp only [sX4_allHold, List.mem_cons, List.not_mem_nil, or_false]; omega) (fun _ _ => ?_)
    | refine zPr.bI (by assumption) (by simp only [sX4_allHold, List.mem_cons, List.not_mem_nil, or_false]; omega) (fun _ _ => ?_)
    | refine zPr.bL (by assumption) (by simp only [sX4_allHold, List.mem_cons, List.not_mem_nil, or_false]; omega) (fun _ _ => ?_)
    | refine zPr.wC (by assumption) (by simp only [sX4_allHold, List.mem_cons, List.not_mem_nil, or_false]; omega) (fun _ _ => ?_)
    | refine zPr.aI (fun _ => ?_)
    | refine zPr.aL (fun _ => ?_)
    | refine zPr.gd ?_
    | refine zPr.bnr (fun _ => ?_)
    | refine zPr.bnv (fun _ => ?_)
    | exact zPr.tail (S' := sX4_allHold) (by assumption) (mX4_allHold_2 ..) (fun _ h => h)
def sX4_tellAlone (t : Bool × Bool × Bool) : List Nat := [26]
theorem mX4_tellAlone_29 (x1 : Int32) (x4 : Int32) (s0 : Int32) (s1 : Int32) (σ : zS) : zPr (sX4_tellAlone σ.2.2) σ id (fX4_tellAlone_29 x1 x4 s0 s1 σ) := by
  unfold fX4_tellAlone_29
  have hc := zSm.rfl (sX4_tellAlone σ.2.2) σ
  repeat' first
    | exact zPr.none
    | exact zPr.some (by assumption)
    | refine zPr.ite ?_ ?_
    | refine zPr.wI (by assumption) (by simp only [sX4_tellAlone, List.mem_cons, List.not_mem_nil, or_false]; omega) (fun _ _ => ?_)
    | refine zPr.wL (by assumption) (by simp only [sX4_tellAlone, List.mem_cons, List.not_mem_nil, or_false]; omega) (fun _ _ => ?_)
    | refine zPr.bI (by assumption) (by simp only [sX4_tellAlone, List.mem_cons, List.not_mem_nil, or_false]; omega) (fun _ _ => ?_)
    | refine zPr.bL (by assumption) (by simp only [sX4_tellAlone, List.mem_cons, List.not_mem_nil, or_false]; omega) (fun _ _ => ?_)
    | refine zPr.wC (by assumption) (by simp only [sX4_tellAlone, List.mem_cons, List.not_mem_nil, or_false]; omega) (fun _ _ => ?_)
    | refine zPr.aI (fun _ => ?_)
    | refine zPr.aL (fun _ => ?_)
    | refine zPr.gd ?_
    | refine zPr.bnr (fun _ => ?_)
    | refine zPr.bnv (fun _ => ?_)
theorem mX4_tellAlone (p1 : Int32) (p2 : Int32) (p3 : Int32) (p4 : Int32) (σ : zS) : zPr (sX4_tellAlone σ.2.2) σ id (fX4_tellAlone p1 p2 p3 p4 σ) := by
  unfold fX4_tellAlone
  have hc := zSm.rfl (sX4_tellAlone σ.2.2) σ
  repeat' first
    | exact zPr.none
    | exact zPr.some (by assumption)
    | refine zPr.ite ?_ ?_
    | refine zPr.wI (by assumption) (by simp only [sX4_tellAlone, List.mem_cons, List.not_mem_nil, or_false]; omega) (fun _ _ => ?_)
    | refine zPr.wL (by assumption) (by simp only [sX4_tellAlone, List.mem_cons, List.not_mem_nil, or_false]; omega) (fun _ _ => ?_)
    | refine zPr.bI (by assumption) (by simp only [sX4_tellAlone, List.mem_cons, List.not_mem_nil, or_false]; omega) (fun _ _ => ?_)
    | refine zPr.bL (by assumption) (by simp only [sX4_tellAlone, List.mem_cons, List.not_mem_nil, or_false]; omega) (fun _ _ => ?_)
    | refine zPr.wC (by assumption) (by simp only [sX4_tellAlone, List.mem_cons, List.not_mem_nil, or_false]; omega) (fun _ _ => ?_)
    | refine zPr.aI (fun _ => ?_)
    | refine zPr.aL (fun _ => ?_)
    | refine zPr.gd ?_
    | refine zPr.bnr (fun _ => ?_)
    | refine zPr.bnv (fun _ => ?_)
    | exact zPr.tail (S' := sX4_tellAlone) (by assumption) (mX4_tellAlone_29 ..) (fun _ h => h)
def sX4_tellAmong (t : Bool × Bool × Bool) : List Nat := [26]
theorem mX4_tellAmong_84 (r23 : Int32 → Int32 → zS → Option zS) (hr23 : ∀ (x0 : Int32) (x1 : Int32) (σ : zS), zPr (sX4_tellAmong σ.2.2) σ id (r23 x0 x1 σ)) (x1 : Int32) (x4 : Int32) (σ : zS) : zPr (sX4_tellAmong σ.2.2) σ id (fX4_tellAmong_84 r23 x1 x4 σ) := by
  unfold fX4_tellAmong_84
  have hc := zSm.rfl (sX4_tellAmong σ.2.2) σ
  repeat' first
    | exact zPr.none
    | exact zPr.some (by assumption)
    | refine zPr.ite ?_ ?_
    | refine zPr.wI (by assumption) (by simp only [sX4_tellAmong, List.mem_cons, List.not_mem_nil, or_false]; omega) (fun _ _ => ?_)
    | refine zPr.wL (by assumption) (by simp only [sX4_tellAmong, List.mem_cons, List.not_mem_nil, or_false]; omega) (fun _ _ => ?_)
    | refine zPr.bI (by assumption) (by simp only [sX4_tellAmong, List.mem_cons, List.not_mem_nil, or_false]; omega) (fun _ _ => ?_)
    | refine zPr.bL (by assumption) (by simp only [sX4_tellAmong, List.mem_cons, List.not_mem_nil, or_false]; omega) (fun _ _ => ?_)
    | refine zPr.wC (by assumption) (by simp only [sX4_tellAmong, List.mem_cons, List.not_mem_nil, or_false]; omega) (fun _ _ => ?_)
    | refine zPr.aI (fun _ => ?_)
    | refine zPr.aL (fun _ => ?_)
    | refine zPr.gd ?_
    | refine zPr.bw (S' := sX4_tellAlone) (by assumption) (mX4_tellAlone ..) (fun p hp => by simp only [sX4_tellAlone, sX4_tellAmong, List.mem_cons, List.not_mem_nil, or_false] at hp ⊢ <;> omega) (fun _ _ => ?_)
    | refine zPr.bnr (fun _ => ?_)
    | refine zPr.bnv (fun _ => ?_)
    | exact zPr.tail (S' := sX4_tellAmong) (by assumption) (hr23 ..) (fun _ h => h)
theorem mX4_tellAmong_58 (r23 : Int32 → Int32 → zS → Option zS) (hr23 : ∀ (x0 : Int32) (x1 : Int32) (σ : zS), zPr (sX4_tellAmong σ.2.2) σ id (r23 x0 x1 σ)) (x1 : Int32) (x4 : Int32) (σ : zS) : zPr (sX4_tellAmong σ.2.2) σ id (fX4_tellAmong_58 r23 x1 x4 σ) := by
  unfold fX4_tellAmong_58
  have hc := zSm.rfl (sX4_tellAmong σ.2.2) σ
  repeat' first
    | exact zPr.none
    | exact zPr.some (by assumption)
    | refine zPr.ite ?_ ?_
    | refine zPr.wI (by assumption) (by simp only [sX4_tellAmong, List.mem_cons, List.not_mem_nil, or_false]; omega) (fun _ _ => ?_)
    | refine zPr.wL (by assumption) (by simp only [sX4_tellAmong, List.mem_cons, List.not_mem_nil, or_false]; omega) (fun _ _ => ?_)
    | refine zPr.bI (by assumption) (by simp only [sX4_tellAmong, List.mem_cons, List.not_mem_nil, or_false]; omega) (fun _ _ => ?_)
    | refine zPr.bL (by assumption) (by simp only [sX4_tellAmong, List.mem_cons, List.not_mem_nil, or_false]; omega) (fun _ _ => ?_)
    | refine zPr.wC (by assumption) (by simp only [sX4_tellAmong, List.mem_cons, List.not_mem_nil, or_false]; omega) (fun _ _ => ?_)
    | refine zPr.aI (fun _ => ?_)
    | refine zPr.aL (fun _ => ?_)
    | refine zPr.gd ?_
    | refine zPr.bw (S' := sX4_tellAlone) (by assumption) (mX4_tellAlone ..) (fun p hp => by simp only [sX4_tellAlone, sX4_tellAmong, List.mem_cons, List.not_mem_nil, or_false] at hp ⊢ <;> omega) (fun _ _ => ?_)
    | refine zPr.bnr (fun _ => ?_)
    | refine zPr.bnv (fun _ => ?_)
    | exact zPr.tail (S' := sX4_tellAmong) (by assumption) (hr23 ..) (fun _ h => h)
    | exact zPr.tail (S' := sX4_tellAmong) (by assumption) (mX4_tellAmong_84 _ (by first | assumption | exact ih | (intros; apply ih) | (intros; apply mX4_tellAmong_23)) ..) (fun _ h => h)
theorem mX4_tellAmong_23 : ∀ (fuel : Nat) (x1 : Int32) (x4 : Int32) (σ : zS), zPr (sX4_tellAmong σ.2.2) σ id (fX4_tellAmong_23 fuel x1 x4 σ) := by
  intro fuel
  induction fuel with
  | zero => intro x1 x4 σ; exact zPr.none
  | succ f ih =>
    intro x1 x4 σ
    rw [fX4_tellAmong_23]
    have hc := zSm.rfl (sX4_tellAmong σ.2.2) σ
    repeat' first
      | exact zPr.none
      | exact zPr.some (by assumption)
      | refine zPr.ite ?_ ?_
      | refine zPr.wI (by assumption) (by simp only [sX4_tellAmong, List.mem_cons, List.not_mem_nil, or_false]; omega) (fun _ _ => ?_)
      | refine zPr.wL (by assumption) (by simp only [sX4_tellAmong, List.mem_cons, List.not_mem_nil, or_false]; omega) (fun _ _ => ?_)
      | refine zPr.bI (by assumption) (by simp only [sX4_tellAmong, List.mem_cons, List.not_mem_nil, or_false]; omega) (fun _ _ => ?_)
      | refine zPr.bL (by assumption) (by simp only [sX4_tellAmong, List.mem_cons, List.not_mem_nil, or_false]; omega) (fun _ _ => ?_)
      | refine zPr.wC (by assumption) (by simp only [sX4_tellAmong, List.mem_cons, List.not_mem_nil, or_false]; omega) (fun _ _ => ?_)
      | refine zPr.aI (fun _ => ?_)
      | refine zPr.aL (fun _ => ?_)
      | refine zPr.gd ?_
      | refine zPr.bw (S' := sX4_tellAlone) (by assumption) (mX4_tellAlone ..) (fun p hp => by simp only [sX4_tellAlone, sX4_tellAmong, List.mem_cons, List.not_mem_nil, or_false] at hp ⊢ <;> omega) (fun _ _ => ?_)
      | refine zPr.bnr (fun _ => ?_)
      | refine zPr.bnv (fun _ => ?_)
      | exact zPr.tail (S' := sX4_tellAmong) (by assumption) (ih ..) (fun _ h => h)
      | exact zPr.tail (S' := sX4_tellAmong) (by assumption) (mX4_tellAmong_84 _ (by first | assumption | exact ih | (intros; apply ih) | (intros; apply mX4_tellAmong_23)) ..) (fun _ h => h)
      | exact zPr.tail (S' := sX4_tellAmong) (by assumption) (mX4_tellAmong_58 _ (by first | assumption | exact ih | (intros; apply ih) | (intros; apply mX4_tellAmong_23)) ..) (fun _ h => h)
theorem mX4_tellAmong (p1 : Int32) (p2 : Int32) (p3 : Int32) (σ : zS) : zPr (sX4_tellAmong σ.2.2) σ id (fX4_tellAmong p1 p2 p3 σ) := by
  unfold fX4_tellAmong
  have hc := zSm.rfl (sX4_tellAmong σ.2.2) σ
  repeat' first
    | exact zPr.none
    | exact zPr.some (by assumption)
    | refine zPr.ite ?_ ?_
    | refine zPr.wI (by assumption) (by simp only [sX4_tellAmong, List.mem_cons, List.not_mem_nil, or_false]; omega) (fun _ _ => ?_)
    | refine zPr.wL (by assumption) (by simp only [sX4_tellAmong, List.mem_cons, List.not_mem_nil, or_false]; omega) (fun _ _ => ?_)
    | refine zPr.bI (by assumption) (by simp only [sX4_tellAmong, List.mem_cons, List.not_mem_nil, or_false]; omega) (fun _ _ => ?_)
    | refine zPr.bL (by assumption) (by simp only [sX4_tellAmong, List.mem_cons, List.not_mem_nil, or_false]; omega) (fun _ _ => ?_)
    | refine zPr.wC (by assumption) (by simp only [sX4_tellAmong, List.mem_cons, List.not_mem_nil, or_false]; omega) (fun _ _ => ?_)
    | refine zPr.aI (fun _ => ?_)
    | refine zPr.aL (fun _ => ?_)
    | refine zPr.gd ?_
    | refine zPr.bw (S' := sX4_tellAlone) (by assumption) (mX4_tellAlone ..) (fun p hp => by simp only [sX4_tellAlone, sX4_tellAmong, List.mem_cons, List.not_mem_nil, or_false] at hp ⊢ <;> omega) (fun _ _ => ?_)
    | refine zPr.bnr (fun _ => ?_)
    | refine zPr.bnv (fun _ => ?_)
    | exact zPr.tail (S' := sX4_tellAmong) (by assumption) (mX4_tellAmong_84 _ (by first | assumption | exact ih | (intros; apply ih) | (intros; apply mX4_tellAmong_23)) ..) (fun _ h => h)
    | exact zPr.tail (S' := sX4_tellAmong) (by assumption) (mX4_tellAmong_58 _ (by first | assumption | exact ih | (intros; apply ih) | (intros; apply mX4_tellAmong_23)) ..) (fun _ h => h)
    | exact zPr.tail (S' := sX4_tellAmong) (by assumption) (mX4_tellAmong_23 ..) (fun _ h => h)
def sX8_pop (b0 : Bool) (t : Bool × Bool × Bool) : List Nat := [rp b0 + 11]
theorem mX8_pop (b0 : Bool) (σ : zS) : zPr (sX8_pop b0 σ.2.2) σ Prod.snd (fX8_pop b0 σ) := by
  unfold fX8_pop
  have hc := zSm.rfl (sX8_pop b0 σ.2.2) σ
  repeat' first
    | exact zPr.none
    | exact zPr.some (by assumption)
    | refine zPr.ite ?_ ?_
    | refine zPr.wI (by assumption) (by simp only [sX8_pop, List.mem_cons, List.not_mem_nil, or_false]; omega) (fun _ _ => ?_)
    | refine zPr.wL (by assumption) (by simp only [sX8_pop, List.mem_cons, List.not_mem_nil, or_false]; omega) (fun _ _ => ?_)
    | refine zPr.bI (by assumption) (by simp only [sX8_pop, List.mem_cons, List.not_mem_nil, or_false]; omega) (fun _ _ => ?_)
    | refine zPr.bL (by assumption) (by simp only [sX8_pop, List.mem_cons, List.not_mem_nil, or_false]; omega) (fun _ _ => ?_)
    | refine zPr.wC (by assumption) (by simp only [sX8_pop, List.mem_cons, List.not_mem_nil, or_false]; omega) (fun _ _ => ?_)
    | refine zPr.aI (fun _ => ?_)
    | refine zPr.aL (fun _ => ?_)
    | refine zPr.gd ?_
    | refine zPr.bnr (fun _ => ?_)
    | refine zPr.bnv (fun _ => ?_)
def sX8_push (b0 : Bool) (t : Bool × Bool × Bool) : List Nat := [rp b0 + 11, rp b0 + 13]
theorem mX8_push (b0 : Bool) (p1 : Int32) (σ : zS) : zPr (sX8_push b0 σ.2.2) σ id (fX8_push b0 p1 σ) := by
  unfold fX8_push
  have hc := zSm.rfl (sX8_push b0 σ.2.2) σ
  repeat' first
    | exact zPr.none
    | exact zPr.some (by assumption)
    | refine zPr.ite ?_ ?_
    | refine zPr.wI (by assumption) (by simp only [sX8_push, List.mem_cons, List.not_mem_nil, or_false]; omega) (fun _ _ => ?_)
    | refine zPr.wL (by assumption) (by simp only [sX8_push, List.mem_cons, List.not_mem_nil, or_false]; omega) (fun _ _ => ?_)
    | refine zPr.bI (by assumption) (by simp only [sX8_push, List.mem_cons, List.not_mem_nil, or_false]; omega) (fun _ _ => ?_)
    | refine zPr.bL (by assumption) (by simp only [sX8_push, List.mem_cons, List.not_mem_nil, or_false]; omega) (fun _ _ => ?_)
    | refine zPr.wC (by assumption) (by simp only [sX8_push, List.mem_cons, List.not_mem_nil, or_false]; omega) (fun _ _ => ?_)
    | refine zPr.aI (fun _ => ?_)
    | refine zPr.aL (fun _ => ?_)
    | refine zPr.gd ?_
    | refine zPr.bnr (fun _ => ?_)
    | refine zPr.bnv (fun _ => ?_)
def sX8_valueOf (b0 : Bool) (a2 : Nat) (t : Bool × Bool × Bool) : List Nat := [rp b0 + 11, rp b0 + 13]
theorem mX8_valueOf_164 (b0 : Bool) (a2 : Nat) (n2 : Nat) (r20 : Int32 → Int32 → zS → Option (Int32 × zS)) (hr20 : ∀ (x0 : Int32) (x1 : Int32) (σ : zS), zPr (sX8_valueOf b0 a2 σ.2.2) σ Prod.snd (r20 x0 x1 σ)) (x3 : Int32) (x4 : Int32) (σ : zS) : zPr (sX8_valueOf b0 a2 σ.2.2) σ Prod.snd (fX8_valueOf_164 b0 a2 n2 r20 x3 x4 σ) := by
  unfold fX8_valueOf_164
  have hc := zSm.rfl (sX8_valueOf b0 a2 σ.2.2) σ
  repeat' first
    | exact zPr.none
    | exact zPr.some (by assumption)
    | refine zPr.ite ?_ ?_
    | refine zPr.wI (by assumption) (by simp only [sX8_valueOf, List.mem_cons, List.not_mem_nil, or_false]; omega) (fun _ _ => ?_)
    | refine zPr.wL (by assumption) (by simp only [sX8_valueOf, List.mem_cons, List.not_mem_nil, or_false]; omega) (fun _ _ => ?_)
    | refine zPr.bI (by assumption) (by simp only [sX8_valueOf, List.mem_cons, List.not_mem_nil, or_false]; omega) (fun _ _ => ?_)
    | refine zPr.bL (by assumption) (by simp only [sX8_valueOf, List.mem_cons, List.not_mem_nil, or_false]; omega) (fun _ _ => ?_)
    | refine zPr.wC (by assumption) (by simp only [sX8_valueOf, List.mem_cons, List.not_mem_nil, or_false]; omega) (fun _ _ => ?_)
    | refine zPr.aI (fun _ => ?_)
    | refine zPr.aL (fun _ => ?_)
    | refine zPr.gd ?_
    | refine zPr.bc (S' := sX8_pop _) (by assumption) (mX8_pop ..) (fun p hp => by simp only [sX8_pop, sX8_valueOf, List.mem_cons, List.not_mem_nil, or_false] at hp ⊢ <;> omega) (fun _ _ _ => ?_)
    | refine zPr.bw (S' := sX8_push _) (by assumption) (mX8_push ..) (fun p hp => by simp only [sX8_push, sX8_valueOf, List.mem_cons, List.not_mem_nil, or_false] at hp ⊢ <;> omega) (fun _ _ => ?_)
    | refine zPr.bnr (fun _ => ?_)
    | refine zPr.bnv (fun _ => ?_)
    | exact zPr.tail (S' := sX8_valueOf b0 a2) (by assumption) (hr20 ..) (fun _ h => h)
theorem mX8_valueOf_101 (b0 : Bool) (a2 : Nat) (n2 : Nat) (r20 : Int32 → Int32 → zS → Option (Int32 × zS)) (hr20 : ∀ (x0 : Int32) (x1 : Int32) (σ : zS), zPr (sX8_valueOf b0 a2 σ.2.2) σ Prod.snd (r20 x0 x1 σ)) (x3 : Int32) (x4 : Int32) (x6 : Int32) (σ : zS) : zPr (sX8_valueOf b0 a2 σ.2.2) σ Prod.snd (fX8_valueOf_101 b0 a2 n2 r20 x3 x4 x6 σ) := by
  unfold fX8_valueOf_101
  have hc := zSm.rfl (sX8_valueOf b0 a2 σ.2.2) σ
  repeat' first
    | exact zPr.none
    | exact zPr.some (by assumption)
    | refine zPr.ite ?_ ?_
    | refine zPr.wI (by assumption) (by simp only [sX8_valueOf, List.mem_cons, List.not_mem_nil, or_false]; omega) (fun _ _ => ?_)
    | refine zPr.wL (by assumption) (by simp only [sX8_valueOf, List.mem_cons, List.not_mem_nil, or_false]; omega) (fun _ _ => ?_)
    | refine zPr.bI (by assumption) (by simp only [sX8_valueOf, List.mem_cons, List.not_mem_nil, or_false]; omega) (fun _ _ => ?_)
    | refine zPr.bL (by assumption) (by simp only [sX8_valueOf, List.mem_cons, List.not_mem_nil, or_false]; omega) (fun _ _ => ?_)
    | refine zPr.wC (by assumption) (by simp only [sX8_valueOf, List.mem_cons, List.not_mem_nil, or_false]; omega) (fun _ _ => ?_)
    | refine zPr.aI (fun _ => ?_)
    | refine zPr.aL (fun _ => ?_)
    | refine zPr.gd ?_
    | refine zPr.bc (S' := sX8_pop _) (by assumption) (mX8_pop ..) (fun p hp => by simp only [sX8_pop, sX8_valueOf, List.mem_cons, List.not_mem_nil, or_false] at hp ⊢ <;> omega) (fun _ _ _ => ?_)
    | refine zPr.bw (S' := sX8_push _) (by assumption) (mX8_push ..) (fun p hp => by simp only [sX8_push, sX8_valueOf, List.mem_cons, List.not_mem_nil, or_false] at hp ⊢ <;> omega) (fun _ _ => ?_)
    | refine zPr.bnr (fun _ => ?_)
    | refine zPr.bnv (fun _ => ?_)
    | exact zPr.tail (S' := sX8_valueOf b0 a2) (by assumption) (hr20 ..) (fun _ h => h)
    | exact zPr.tail (S' := sX8_valueOf b0 a2) (by assumption) (mX8_valueOf_164 _ _ _ _ (by first | assumption | exact ih | (intros; apply ih) | (intros; apply mX8_valueOf_20)) ..) (fun _ h => h)
theorem mX8_valueOf_115 (b0 : Bool) (a2 : Nat) (n2 : Nat) (r20 : Int32 → Int32 → zS → Option (Int32 × zS)) (hr20 : ∀ (x0 : Int32) (x1 : Int32) (σ : zS), zPr (sX8_valueOf b0 a2 σ.2.2) σ Prod.snd (r20 x0 x1 σ)) (x3 : Int32) (x4 : Int32) (x5 : Int32) (σ : zS) : zPr (sX8_valueOf b0 a2 σ.2.2) σ Prod.snd (fX8_valueOf_115 b0 a2 n2 r20 x3 x4 x5 σ) := by
  unfold fX8_valueOf_115
  have hc := zSm.rfl (sX8_valueOf b0 a2 σ.2.2) σ
  repeat' first
    | exact zPr.none
    | exact zPr.some (by assumption)
    | refine zPr.ite ?_ ?_
    | refine zPr.wI (by assumption) (by simp only [sX8_valueOf, List.mem_cons, List.not_mem_nil, or_false]; omega) (fun _ _ => ?_)
    | refine zPr.wL (by assumption) (by simp only [sX8_valueOf, List.mem_cons, List.not_mem_nil, or_false]; omega) (fun _ _ => ?_)
    | refine zPr.bI (by assumption) (by simp only [sX8_valueOf, List.mem_cons, List.not_mem_nil, or_false]; omega) (fun _ _ => ?_)
    | refine zPr.bL (by assumption) (by simp only [sX8_valueOf, List.mem_cons, List.not_mem_nil, or_false]; omega) (fun _ _ => ?_)
    | refine zPr.wC (by assumption) (by simp only [sX8_valueOf, List.mem_cons, List.not_mem_nil, or_false]; omega) (fun _ _ => ?_)
    | refine zPr.aI (fun _ => ?_)
    | refine zPr.aL (fun _ => ?_)
    | refine zPr.gd ?_
    | refine zPr.bc (S' := sX8_pop _) (by assumption) (mX8_pop ..) (fun p hp => by simp only [sX8_pop, sX8_valueOf, List.mem_cons, List.not_mem_nil, or_false] at hp ⊢ <;> omega) (fun _ _ _ => ?_)
    | refine zPr.bw (S' := sX8_push _) (by assumption) (mX8_push ..) (fun p hp => by simp only [sX8_push, sX8_valueOf, List.mem_cons, List.not_mem_nil, or_false] at hp ⊢ <;> omega) (fun _ _ => ?_)
    | refine zPr.bnr (fun _ => ?_)
    | refine zPr.bnv (fun _ => ?_)
    | exact zPr.tail (S' := sX8_valueOf b0 a2) (by assumption) (hr20 ..) (fun _ h => h)
    | exact zPr.tail (S' := sX8_valueOf b0 a2) (by assumption) (mX8_valueOf_164 _ _ _ _ (by first | assumption | exact ih | (intros; apply ih) | (intros; apply mX8_valueOf_20)) ..) (fun _ h => h)
    | exact zPr.tail (S' := sX8_valueOf b0 a2) (by assumption) (mX8_valueOf_101 _ _ _ _ (by first | assumption | exact ih | (intros; apply ih) | (intros; apply mX8_valueOf_20)) ..) (fun _ h => h)
theorem mX8_valueOf_20 (b0 : Bool) (a2 : Nat) (n2 : Nat) : ∀ (fuel : Nat) (x3 : Int32) (x4 : Int32) (σ : zS), zPr (sX8_valueOf b0 a2 σ.2.2) σ Prod.snd (fX8_valueOf_20 b0 a2 n2 fuel x3 x4 σ) := by
  intro fuel
  induction fuel with
  | zero => intro x3 x4 σ; exact zPr.none
  | succ f ih =>
    intro x3 x4 σ
    rw [fX8_valueOf_20]
    have hc := zSm.rfl (sX8_valueOf b0 a2 σ.2.2) σ
    repeat' first
      | exact zPr.none
      | exact zPr.some (by assumption)
      | refine zPr.ite ?_ ?_
      | refine zPr.wI (by assumption) (by simp only [sX8_valueOf, List.mem_cons, List.not_mem_nil, or_false]; omega) (fun _ _ => ?_)
      | refine zPr.wL (by assumption) (by simp only [sX8_valueOf, List.mem_cons, List.not_mem_nil, or_false]; omega) (fun _ _ => ?_)
      | refine zPr.bI (by assumption) (by simp only [sX8_valueOf, List.mem_cons, List.not_mem_nil, or_false]; omega) (fun _ _ => ?_)
      | refine zPr.bL (by assumption) (by simp only [sX8_valueOf, List.mem_cons, List.not_mem_nil, or_false]; omega) (fun _ _ => ?_)
      | refine zPr.wC (by assumption) (by simp only [sX8_valueOf, List.mem_cons, List.not_mem_nil, or_false]; omega) (fun _ _ => ?_)
      | refine zPr.aI (fun _ => ?_)
      | refine zPr.aL (fun _ => ?_)
      | refine zPr.gd ?_
      | refine zPr.bc (S' := sX8_pop _) (by assumption) (mX8_pop ..) (fun p hp => by simp only [sX8_pop, sX8_valueOf, List.mem_cons, List.not_mem_nil, or_false] at hp ⊢ <;> omega) (fun _ _ _ => ?_)
      | refine zPr.bw (S' := sX8_push _) (by assumption) (mX8_push ..) (fun p hp => by simp only [sX8_push, sX8_valueOf, List.mem_cons, List.not_mem_nil, or_false] at hp ⊢ <;> omega) (fun _ _ => ?_)
      | refine zPr.bnr (fun _ => ?_)
      | refine zPr.bnv (fun _ => ?_)
      | exact zPr.tail (S' := sX8_valueOf b0 a2) (by assumption) (ih ..) (fun _ h => h)
      | exact zPr.tail (S' := sX8_valueOf b0 a2) (by assumption) (mX8_valueOf_164 _ _ _ _ (by first | assumption | exact ih | (intros; apply ih) | (intros; apply mX8_valueOf_20)) ..) (fun _ h => h)
      | exact zPr.tail (S' := sX8_valueOf b0 a2) (by assumption) (mX8_valueOf_101 _ _ _ _ (by first | assumption | exact ih | (intros; apply ih) | (intros; apply mX8_valueOf_20)) ..) (fun _ h => h)
      | exact zPr.tail (S' := sX8_valueOf b0 a2) (by assumption) (mX8_valueOf_115 _ _ _ _ (by first | assumption | exact ih | (intros; apply ih) | (intros; apply mX8_valueOf_20)) ..) (fun _ h => h)
theorem mX8_valueOf (b0 : Bool) (a2 : Nat) (n2 : Nat) (p1 : Int32) (σ : zS) : zPr (sX8_valueOf b0 a2 σ.2.2) σ Prod.snd (fX8_valueOf b0 a2 n2 p1 σ) := by
  unfold fX8_valueOf
  have hc := zSm.rfl (sX8_valueOf b0 a2 σ.2.2) σ
  repeat' first
    | exact zPr.none
    | exact zPr.some (by assumption)
    | refine zPr.ite ?_ ?_
    | refine zPr.wI (by assumption) (by simp only [sX8_valueOf, List.mem_cons, List.not_mem_nil, or_false]; omega) (fun _ _ => ?_)
    | refine zPr.wL (by assumption) (by simp only [sX8_valueOf, List.mem_cons, List.not_mem_nil, or_false]; omega) (fun _ _ => ?_)
    | refine zPr.bI (by assumption) (by simp only [sX8_valueOf, List.mem_cons, List.not_mem_nil, or_false]; omega) (fun _ _ => ?_)
    | refine zPr.bL (by assumption) (by simp only [sX8_valueOf, List.mem_cons, List.not_mem_nil, or_false]; omega) (fun _ _ => ?_)
    | refine zPr.wC (by assumption) (by simp only [sX8_valueOf, List.mem_cons, List.not_mem_nil, or_false]; omega) (fun _ _ => ?_)
    | refine zPr.aI (fun _ => ?_)
    | refine zPr.aL (fun _ => ?_)
    | refine zPr.gd ?_
    | refine zPr.bc (S' := sX8_pop _) (by assumption) (mX8_pop ..) (fun p hp => by simp only [sX8_pop, sX8_valueOf, List.mem_cons, List.not_mem_nil, or_false] at hp ⊢ <;> omega) (fun _ _ _ => ?_)
    | refine zPr.bw (S' := sX8_push _) (by assumption) (mX8_push ..) (fun p hp => by simp only [sX8_push, sX8_valueOf, List.mem_cons, List.not_mem_nil, or_false] at hp ⊢ <;> omega) (fun _ _ => ?_)
    | refine zPr.bnr (fun _ => ?_)
    | refine zPr.bnv (fun _ => ?_)
    | exact zPr.tail (S' := sX8_valueOf b0 a2) (by assumption) (mX8_valueOf_164 _ _ _ _ (by first | assumption | exact ih | (intros; apply ih) | (intros; apply mX8_valueOf_20)) ..) (fun _ h => h)
    | exact zPr.tail (S' := sX8_valueOf b0 a2) (by assumption) (mX8_valueOf_101 _ _ _ _ (by first | assumption | exact ih | (intros; apply ih) | (intros; apply mX8_valueOf_20)) ..) (fun _ h => h)
    | exact zPr.tail (S' := sX8_valueOf b0 a2) (by assumption) (mX8_valueOf_115 _ _ _ _ (by first | assumption | exact ih | (intros; apply ih) | (intros; apply mX8_valueOf_20)) ..) (fun _ h => h)
    | exact zPr.tail (S' := sX8_valueOf b0 a2) (by assumption) (mX8_valueOf_20 _ _ _ ..) (fun _ h => h)
def sX4_worthAmong (t : Bool × Bool × Bool) : List Nat := [rp t.2.1 + 11, rp t.2.1 + 13, 26]
theorem mX4_worthAmong (p1 : Int32) (p2 : Int32) (p3 : Int32) (σ : zS) : zPr (sX4_worthAmong σ.2.2) σ Prod.snd (fX4_worthAmong p1 p2 p3 σ) := by
  unfold fX4_worthAmong
  have hc := zSm.rfl (sX4_worthAmong σ.2.2) σ
  repeat' first
    | exact zPr.none
    | exact zPr.some (by assumption)
    | refine zPr.ite ?_ ?_
    | refine zPr.wI (by assumption) (by simp only [sX4_worthAmong, List.mem_cons, List.not_mem_nil, or_false]; omega) (fun _ _ => ?_)
    | refine zPr.wL (by assumption) (by simp only [sX4_worthAmong, List.mem_cons, List.not_mem_nil, or_false]; omega) (fun _ _ => ?_)
    | refine zPr.bI (by assumption) (by simp only [sX4_worthAmong, List.mem_cons, List.not_mem_nil, or_false]; omega) (fun _ _ => ?_)
    | refine zPr.bL (by assumption) (by simp only [sX4_worthAmong, List.mem_cons, List.not_mem_nil, or_false]; omega) (fun _ _ => ?_)
    | refine zPr.wC (by assumption) (by simp only [sX4_worthAmong, List.mem_cons, List.not_mem_nil, or_false]; omega) (fun _ _ => ?_)
    | refine zPr.aI (fun _ => ?_)
    | refine zPr.aL (fun _ => ?_)
    | refine zPr.gd ?_
    | refine zPr.bw (S' := sX4_tellAmong) (by assumption) (mX4_tellAmong ..) (fun p hp => by simp only [sX4_tellAmong, sX4_worthAmong, List.mem_cons, List.not_mem_nil, or_false] at hp ⊢ <;> omega) (fun _ _ => ?_)
    | refine zPr.bc (S' := sX8_valueOf _ _) (by assumption) (mX8_valueOf ..) (fun p hp => by simp only [sX8_valueOf, sX4_worthAmong, List.mem_cons, List.not_mem_nil, or_false] at hp ⊢ <;> omega) (fun _ _ _ => ?_)
    | refine zPr.bnr (fun _ => ?_)
    | refine zPr.bnv (fun _ => ?_)
def sX10_worth (t : Bool × Bool × Bool) : List Nat := [rp t.2.1 + 11, rp t.2.1 + 13, 25, 26]
theorem mX10_worth (p1 : Int32) (p2 : Int32) (p3 : Int32) (σ : zS) : zPr (sX10_worth σ.2.2) σ Prod.snd (fX10_worth p1 p2 p3 σ) := by
  unfold fX10_worth
  have hc := zSm.rfl (sX10_worth σ.2.2) σ
  repeat' first
    | exact zPr.none
    | exact zPr.some (by assumption)
    | refine zPr.ite ?_ ?_
    | refine zPr.wI (by assumption) (by simp only [sX10_worth, List.mem_cons, List.not_mem_nil, or_false]; omega) (fun _ _ => ?_)
    | refine zPr.wL (by assumption) (by simp only [sX10_worth, List.mem_cons, List.not_mem_nil, or_false]; omega) (fun _ _ => ?_)
    | refine zPr.bI (by assumption) (by simp only [sX10_worth, List.mem_cons, List.not_mem_nil, or_false]; omega) (fun _ _ => ?_)
    | refine zPr.bL (by assumption) (by simp only [sX10_worth, List.mem_cons, List.not_mem_nil, or_false]; omega) (fun _ _ => ?_)
    | refine zPr.wC (by assumption) (by simp only [sX10_worth, List.mem_cons, List.not_mem_nil, or_false]; omega) (fun _ _ => ?_)
    | refine zPr.aI (fun _ => ?_)
    | refine zPr.aL (fun _ => ?_)
    | refine zPr.gd ?_
    | refine zPr.bw (S' := sX4_allHold) (by assumption) (mX4_allHold ..) (fun p hp => by simp only [sX4_allHold, sX10_worth, List.mem_cons, List.not_mem_nil, or_false] at hp ⊢ <;> omega) (fun _ _ => ?_)
    | refine zPr.bc (S' := sX4_worthAmong) (by assumption) (mX4_worthAmong ..) (fun p hp => by simp only [sX4_worthAmong, sX10_worth, List.mem_cons, List.not_mem_nil, or_false] at hp ⊢ <;> omega) (fun _ _ _ => ?_)
    | refine zPr.bnr (fun _ => ?_)
    | refine zPr.bnv (fun _ => ?_)
def sX4_tiredAlone (t : Bool × Bool × Bool) : List Nat := [rp t.2.1 + 11, rp t.2.1 + 13, 26]
theorem mX4_tiredAlone (p1 : Int32) (p2 : Int32) (p3 : Int32) (p4 : Int32) (σ : zS) : zPr (sX4_tiredAlone σ.2.2) σ Prod.snd (fX4_tiredAlone p1 p2 p3 p4 σ) := by
  unfold fX4_tiredAlone
  have hc := zSm.rfl (sX4_tiredAlone σ.2.2) σ
  repeat' first
    | exact zPr.none
    | exact zPr.some (by assumption)
    | refine zPr.ite ?_ ?_
    | refine zPr.wI (by assumption) (by simp only [sX4_tiredAlone, List.mem_cons, List.not_mem_nil, or_false]; omega) (fun _ _ => ?_)
    | refine zPr.wL (by assumption) (by simp only [sX4_tiredAlone, List.mem_cons, List.not_mem_nil, or_false]; omega) (fun _ _ => ?_)
    | refine zPr.bI (by assumption) (by simp only [sX4_tiredAlone, List.mem_cons, List.not_mem_nil, or_false]; omega) (fun _ _ => ?_)
    | refine zPr.bL (by assumption) (by simp only [sX4_tiredAlone, List.mem_cons, List.not_mem_nil, or_false]; omega) (fun _ _ => ?_)
    | refine zPr.wC (by assumption) (by simp only [sX4_tiredAlone, List.mem_cons, List.not_mem_nil, or_false]; omega) (fun _ _ => ?_)
    | refine zPr.aI (fun _ => ?_)
    | refine zPr.aL (fun _ => ?_)
    | refine zPr.gd ?_
    | refine zPr.bw (S' := sX4_tellAlone) (by assumption) (mX4_tellAlone ..) (fun p hp => by simp only [sX4_tellAlone, sX4_tiredAlone, List.mem_cons, List.not_mem_nil, or_false] at hp ⊢ <;> omega) (fun _ _ => ?_)
    | refine zPr.bc (S' := sX8_valueOf _ _) (by assumption) (mX8_valueOf ..) (fun p hp => by simp only [sX8_valueOf, sX4_tiredAlone, List.mem_cons, List.not_mem_nil, or_false] at hp ⊢ <;> omega) (fun _ _ _ => ?_)
    | refine zPr.bnr (fun _ => ?_)
    | refine zPr.bnv (fun _ => ?_)
def sX10_tired (t : Bool × Bool × Bool) : List Nat := [rp t.2.1 + 11, rp t.2.1 + 13, 26]
theorem mX10_tired (p1 : Int32) (p2 : Int32) (p3 : Int32) (p4 : Int32) (σ : zS) : zPr (sX10_tired σ.2.2) σ Prod.snd (fX10_tired p1 p2 p3 p4 σ) := by
  unfold fX10_tired
  have hc := zSm.rfl (sX10_tired σ.2.2) σ
  repeat' first
    | exact zPr.none
    | exact zPr.some (by assumption)
    | refine zPr.ite ?_ ?_
    | refine zPr.wI (by assumption) (by simp only [sX10_tired, List.mem_cons, List.not_mem_nil, or_false]; omega) (fun _ _ => ?_)
    | refine zPr.wL (by assumption) (by simp only [sX10_tired, List.mem_cons, List.not_mem_nil, or_false]; omega) (fun _ _ => ?_)
    | refine zPr.bI (by assumption) (by simp only [sX10_tired, List.mem_cons, List.not_mem_nil, or_false]; omega) (fun _ _ => ?_)
    | refine zPr.bL (by assumption) (by simp only [sX10_tired, List.mem_cons, List.not_mem_nil, or_false]; omega) (fun _ _ => ?_)
    | refine zPr.wC (by assumption) (by simp only [sX10_tired, List.mem_cons, List.not_mem_nil, or_false]; omega) (fun _ _ => ?_)
    | refine zPr.aI (fun _ => ?_)
    | refine zPr.aL (fun _ => ?_)
    | refine zPr.gd ?_
    | refine zPr.bc (S' := sX4_tiredAlone) (by assumption) (mX4_tiredAlone ..) (fun p hp => by simp only [sX4_tiredAlone, sX10_tired, List.mem_cons, List.not_mem_nil, or_false] at hp ⊢ <;> omega) (fun _ _ _ => ?_)
    | refine zPr.bnr (fun _ => ?_)
    | refine zPr.bnv (fun _ => ?_)
def sJ7_fill_d0a16 (a0 : Nat) (t : Bool × Bool × Bool) : List Nat := [a0]
theorem mJ7_fill_d0a16_6 (a0 : Nat) (n0 : Nat) : ∀ (fuel : Nat) (x1 : Int64) (x3 : Int32) (x4 : Int32) (σ : zS), zPr (sJ7_fill_d0a16 a0 σ.2.2) σ id (fJ7_fill_d0a16_6 a0 n0 fuel x1 x3 x4 σ) := by
  intro fuel
  induction fuel with
  | zero => intro x1 x3 x4 σ; exact zPr.none
  | succ f ih =>
    intro x1 x3 x4 σ
    rw [fJ7_fill_d0a16_6]
    have hc := zSm.rfl (sJ7_fill_d0a16 a0 σ.2.2) σ
    repeat' first
      | exact zPr.none
      | exact zPr.some (by assumption)
      | refine zPr.ite ?_ ?_
      | refine zPr.wI (by assumption) (by simp only [sJ7_fill_d0a16, List.mem_cons, List.not_mem_nil, or_false]; omega) (fun _ _ => ?_)
      | refine zPr.wL (by assumption) (by simp only [sJ7_fill_d0a16, List.mem_cons, List.not_mem_nil, or_false]; omega) (fun _ _ => ?_)
      | refine zPr.bI (by assumption) (by simp only [sJ7_fill_d0a16, List.mem_cons, List.not_mem_nil, or_false]; omega) (fun _ _ => ?_)
      | refine zPr.bL (by assumption) (by simp only [sJ7_fill_d0a16, List.mem_cons, List.not_mem_nil, or_false]; omega) (fun _ _ => ?_)
      | refine zPr.wC (by assumption) (by simp only [sJ7_fill_d0a16, List.mem_cons, List.not_mem_nil, or_false]; omega) (fun _ _ => ?_)
      | refine zPr.aI (fun _ => ?_)
      | refine zPr.aL (fun _ => ?_)
      | refine zPr.gd ?_
      | refine zPr.bnr (fun _ => ?_)
      | refine zPr.bnv (fun _ => ?_)
      | exact zPr.tail (S' := sJ7_fill_d0a16 a0) (by assumption) (ih ..) (fun _ h => h)
theorem mJ7_fill_d0a16 (a0 : Nat) (n0 : Nat) (p1 : Int64) (σ : zS) : zPr (sJ7_fill_d0a16 a0 σ.2.2) σ id (fJ7_fill_d0a16 a0 n0 p1 σ) := by
  unfold fJ7_fill_d0a16
  have hc := zSm.rfl (sJ7_fill_d0a16 a0 σ.2.2) σ
  repeat' first
    | exact zPr.none
    | exact zPr.some (by assumption)
    | refine zPr.ite ?_ ?_
    | refine zPr.wI (by assumption) (by simp only [sJ7_fill_d0a16, List.mem_cons, List.not_mem_nil, or_false]; omega) (fun _ _ => ?_)
    | refine zPr.wL (by assumption) (by simp only [sJ7_fill_d0a16, List.mem_cons, List.not_mem_nil, or_false]; omega) (fun _ _ => ?_)
    | refine zPr.bI (by assumption) (by simp only [sJ7_fill_d0a16, List.mem_cons, List.not_mem_nil, or_false]; omega) (fun _ _ => ?_)
    | refine zPr.bL (by assumption) (by simp only [sJ7_fill_d0a16, List.mem_cons, List.not_mem_nil, or_false]; omega) (fun _ _ => ?_)
    | refine zPr.wC (by assumption) (by simp only [sJ7_fill_d0a16, List.mem_cons, List.not_mem_nil, or_false]; omega) (fun _ _ => ?_)
    | refine zPr.aI (fun _ => ?_)
    | refine zPr.aL (fun _ => ?_)
    | refine zPr.gd ?_
    | refine zPr.bnr (fun _ => ?_)
    | refine zPr.bnv (fun _ => ?_)
    | exact zPr.tail (S' := sJ7_fill_d0a16 a0) (by assumption) (mJ7_fill_d0a16_6 _ _ ..) (fun _ h => h)
def sX4_worthAlone (t : Bool × Bool × Bool) : List Nat := [rp t.2.1 + 11, rp t.2.1 + 13, 26]
theorem mX4_worthAlone (p1 : Int32) (p2 : Int32) (p3 : Int32) (p4 : Int32) (σ : zS) : zPr (sX4_worthAlone σ.2.2) σ Prod.snd (fX4_worthAlone p1 p2 p3 p4 σ) := by
  unfold fX4_worthAlone
  have hc := zSm.rfl (sX4_worthAlone σ.2.2) σ
  repeat' first
    | exact zPr.none
    | exact zPr.some (by assumption)
    | refine zPr.ite ?_ ?_
    | refine zPr.wI (by assumption) (by simp only [sX4_worthAlone, List.mem_cons, List.not_mem_nil, or_false]; omega) (fun _ _ => ?_)
    | refine zPr.wL (by assumption) (by simp only [sX4_worthAlone, List.mem_cons, List.not_mem_nil, or_false]; omega) (fun _ _ => ?_)
    | refine zPr.bI (by assumption) (by simp only [sX4_worthAlone, List.mem_cons, List.not_mem_nil, or_false]; omega) (fun _ _ => ?_)
    | refine zPr.bL (by assumption) (by simp only [sX4_worthAlone, List.mem_cons, List.not_mem_nil, or_false]; omega) (fun _ _ => ?_)
    | refine zPr.wC (by assumption) (by simp only [sX4_worthAlone, List.mem_cons, List.not_mem_nil, or_false]; omega) (fun _ _ => ?_)
    | refine zPr.aI (fun _ => ?_)
    | refine zPr.aL (fun _ => ?_)
    | refine zPr.gd ?_
    | refine zPr.bw (S' := sX4_tellAlone) (by assumption) (mX4_tellAlone ..) (fun p hp => by simp only [sX4_tellAlone, sX4_worthAlone, List.mem_cons, List.not_mem_nil, or_false] at hp ⊢ <;> omega) (fun _ _ => ?_)
    | refine zPr.bc (S' := sX8_valueOf _ _) (by assumption) (mX8_valueOf ..) (fun p hp => by simp only [sX8_valueOf, sX4_worthAlone, List.mem_cons, List.not_mem_nil, or_false] at hp ⊢ <;> omega) (fun _ _ _ => ?_)
    | refine zPr.bnr (fun _ => ?_)
    | refine zPr.bnv (fun _ => ?_)
def sX0_addToSeconds (t : Bool × Bool × Bool) : List Nat := [28]
theorem mX0_addToSeconds_3 : ∀ (fuel : Nat) (x1 : Int32) (x3 : Int32) (x4 : Int64) (x6 : Int32) (σ : zS), zPr (sX0_addToSeconds σ.2.2) σ id (fX0_addToSeconds_3 fuel x1 x3 x4 x6 σ) := by
  intro fuel
  induction fuel with
  | zero => intro x1 x3 x4 x6 σ; exact zPr.none
  | succ f ih =>
    intro x1 x3 x4 x6 σ
    rw [fX0_addToSeconds_3]
    have hc := zSm.rfl (sX0_addToSeconds σ.2.2) σ
    repeat' first
      | exact zPr.none
      | exact zPr.some (by assumption)
      | refine zPr.ite ?_ ?_
      | refine zPr.wI (by assumption) (by simp only [sX0_addToSeconds, List.mem_cons, List.not_mem_nil, or_false]; omega) (fun _ _ => ?_)
      | refine zPr.wL (by assumption) (by simp only [sX0_addToSeconds, List.mem_cons, List.not_mem_nil, or_false]; omega) (fun _ _ => ?_)
      | refine zPr.bI (by assumption) (by simp only [sX0_addToSeconds, List.mem_cons, List.not_mem_nil, or_false]; omega) (fun _ _ => ?_)
      | refine zPr.bL (by assumption) (by simp only [sX0_addToSeconds, List.mem_cons, List.not_mem_nil, or_false]; omega) (fun _ _ => ?_)
      | refine zPr.wC (by assumption) (by simp only [sX0_addToSeconds, List.mem_cons, List.not_mem_nil, or_false]; omega) (fun _ _ => ?_)
      | refine zPr.aI (fun _ => ?_)
      | refine zPr.aL (fun _ => ?_)
      | refine zPr.gd ?_
      | refine zPr.bnr (fun _ => ?_)
      | refine zPr.bnv (fun _ => ?_)
      | exact zPr.tail (S' := sX0_addToSeconds) (by assumption) (ih ..) (fun _ h => h)
theorem mX0_addToSeconds (p1 : Int32) (p2 : Int32) (p3 : Int32) (p4 : Int64) (σ : zS) : zPr (sX0_addToSeconds σ.2.2) σ id (fX0_addToSeconds p1 p2 p3 p4 σ) := by
  unfold fX0_addToSeconds
  have hc := zSm.rfl (sX0_addToSeconds σ.2.2) σ
  repeat' first
    | exact zPr.none
    | exact zPr.some (by assumption)
    | refine zPr.ite ?_ ?_
    | refine zPr.wI (by assumption) (by simp only [sX0_addToSeconds, List.mem_cons, List.not_mem_nil, or_false]; omega) (fun _ _ => ?_)
    | refine zPr.wL (by assumption) (by simp only [sX0_addToSeconds, List.mem_cons, List.not_mem_nil, or_false]; omega) (fun _ _ => ?_)
    | refine zPr.bI (by assumption) (by simp only [sX0_addToSeconds, List.mem_cons, List.not_mem_nil, or_false]; omega) (fun _ _ => ?_)
    | refine zPr.bL (by assumption) (by simp only [sX0_addToSeconds, List.mem_cons, List.not_mem_nil, or_false]; omega) (fun _ _ => ?_)
    | refine zPr.wC (by assumption) (by simp only [sX0_addToSeconds, List.mem_cons, List.not_mem_nil, or_false]; omega) (fun _ _ => ?_)
    | refine zPr.aI (fun _ => ?_)
    | refine zPr.aL (fun _ => ?_)
    | refine zPr.gd ?_
    | refine zPr.bnr (fun _ => ?_)
    | refine zPr.bnv (fun _ => ?_)
    | exact zPr.tail (S' := sX0_addToSeconds) (by assumption) (mX0_addToSeconds_3 ..) (fun _ h => h)
def sJ7_fill_bad5a (a0 : Nat) (t : Bool × Bool × Bool) : List Nat := [a0]
theorem mJ7_fill_bad5a_10 (a0 : Nat) (n0 : Nat) : ∀ (fuel : Nat) (x2 : Int32) (x3 : Int64) (x5 : Int32) (σ : zS), zPr (sJ7_fill_bad5a a0 σ.2.2) σ id (fJ7_fill_bad5a_10 a0 n0 fuel x2 x3 x5 σ) := by
  intro fuel
  induction fuel with
  | zero => intro x2 x3 x5 σ; exact zPr.none
  | succ f ih =>
    intro x2 x3 x5 σ
    rw [fJ7_fill_bad5a_10]
    have hc := zSm.rfl (sJ7_fill_bad5a a0 σ.2.2) σ
    repeat' first
      | exact zPr.none
      | exact zPr.some (by assumption)
      | refine zPr.ite ?_ ?_
      | refine zPr.wI (by assumption) (by simp only [sJ7_fill_bad5a, List.mem_cons, List.not_mem_nil, or_false]; omega) (fun _ _ => ?_)
      | refine zPr.wL (by assumption) (by simp only [sJ7_fill_bad5a, List.mem_cons, List.not_mem_nil, or_false]; omega) (fun _ _ => ?_)
      | refine zPr.bI (by assumption) (by simp only [sJ7_fill_bad5a, List.mem_cons, List.not_mem_nil, or_false]; omega) (fun _ _ => ?_)
      | refine zPr.bL (by assumption) (by simp only [sJ7_fill_bad5a, List.mem_cons, List.not_mem_nil, or_false]; omega) (fun _ _ => ?_)
      | refine zPr.wC (by assumption) (by simp only [sJ7_fill_bad5a, List.mem_cons, List.not_mem_nil, or_false]; omega) (fun _ _ => ?_)
      | refine zPr.aI (fun _ => ?_)
      | refine zPr.aL (fun _ => ?_)
      | refine zPr.gd ?_
      | refine zPr.bnr (fun _ => ?_)
      | refine zPr.bnv (fun _ => ?_)
      | exact zPr.tail (S' := sJ7_fill_bad5a a0) (by assumption) (ih ..) (fun _ h => h)
theorem mJ7_fill_bad5a (a0 : Nat) (n0 : Nat) (p1 : Int32) (p2 : Int32) (p3 : Int64) (σ : zS) : zPr (sJ7_fill_bad5a a0 σ.2.2) σ id (fJ7_fill_bad5a a0 n0 p1 p2 p3 σ) := by
  unfold fJ7_fill_bad5a
  have hc := zSm.rfl (sJ7_fill_bad5a a0 σ.2.2) σ
  repeat' first
    | exact zPr.none
    | exact zPr.some (by assumption)
    | refine zPr.ite ?_ ?_
    | refine zPr.wI (by assumption) (by simp only [sJ7_fill_bad5a, List.mem_cons, List.not_mem_nil, or_false]; omega) (fun _ _ => ?_)
    | refine zPr.wL (by assumption) (by simp only [sJ7_fill_bad5a, List.mem_cons, List.not_mem_nil, or_false]; omega) (fun _ _ => ?_)
    | refine zPr.bI (by assumption) (by simp only [sJ7_fill_bad5a, List.mem_cons, List.not_mem_nil, or_false]; omega) (fun _ _ => ?_)
    | refine zPr.bL (by assumption) (by simp only [sJ7_fill_bad5a, List.mem_cons, List.not_mem_nil, or_false]; omega) (fun _ _ => ?_)
    | refine zPr.wC (by assumption) (by simp only [sJ7_fill_bad5a, List.mem_cons, List.not_mem_nil, or_false]; omega) (fun _ _ => ?_)
    | refine zPr.aI (fun _ => ?_)
    | refine zPr.aL (fun _ => ?_)
    | refine zPr.gd ?_
    | refine zPr.bnr (fun _ => ?_)
    | refine zPr.bnv (fun _ => ?_)
    | exact zPr.tail (S' := sJ7_fill_bad5a a0) (by assumption) (mJ7_fill_bad5a_10 _ _ ..) (fun _ h => h)
def sX0_addPlanned (t : Bool × Bool × Bool) : List Nat := [rp t.2.1 + 11, rp t.2.1 + 13, 26, 28, 29]
def sX0_bestFrom (t : Bool × Bool × Bool) : List Nat := [rp t.2.1 + 11, rp t.2.1 + 13, 26, 28, 29]
def frGX0_addPlanned (g : TGX0_addPlanned) : Prop := (∀ (p1 : Int32) (p2 : Int32) (p3 : Int32) (σ : zS), zPr (sX0_addPlanned σ.2.2) σ id (g.1 p1 p2 p3 σ)) ∧ (∀ (p1 : Int32) (p2 : Int32) (σ : zS), zPr (sX0_bestFrom σ.2.2) σ Prod.snd (g.2 p1 p2 σ))
theorem mX0_addPlanned'_145 (g : TGX0_addPlanned) (hg : frGX0_addPlanned g) (r57 : Int32 → Int32 → Int32 → Int32 → Int32 → Int32 → Int32 → zS → Option zS) (hr57 : ∀ (x0 : Int32) (x1 : Int32) (x2 : Int32) (x3 : Int32) (x4 : Int32) (x5 : Int32) (x6 : Int32) (σ : zS), zPr (sX0_addPlanned σ.2.2) σ id (r57 x0 x1 x2 x3 x4 x5 x6 σ)) (x1 : Int32) (x3 : Int32) (x4 : Int32) (x5 : Int32) (x6 : Int32) (x7 : Int32) (x8 : Int32) (x9 : Int64) (s0 : Int32) (s1 : Int32) (s2 : Int32) (σ : zS) : zPr (sX0_addPlanned σ.2.2) σ id (fX0_addPlanned'_145 g r57 x1 x3 x4 x5 x6 x7 x8 x9 s0 s1 s2 σ) := by
  unfold fX0_addPlanned'_145
  have hc := zSm.rfl (sX0_addPlanned σ.2.2) σ
  repeat' first
    | exact zPr.none
    | exact zPr.some (by assumption)
    | refine zPr.ite ?_ ?_
    | refine zPr.wI (by assumption) (by simp only [sX0_addPlanned, List.mem_cons, List.not_mem_nil, or_false]; omega) (fun _ _ => ?_)
    | refine zPr.wL (by assumption) (by simp only [sX0_addPlanned, List.mem_cons, List.not_mem_nil, or_false]; omega) (fun _ _ => ?_)
    | refine zPr.bI (by assumption) (by simp only [sX0_addPlanned, List.mem_cons, List.not_mem_nil, or_false]; omega) (fun _ _ => ?_)
    | refine zPr.bL (by assumption) (by simp only [sX0_addPlanned, List.mem_cons, List.not_mem_nil, or_false]; omega) (fun _ _ => ?_)
    | refine zPr.wC (by assumption) (by simp only [sX0_addPlanned, List.mem_cons, List.not_mem_nil, or_false]; omega) (fun _ _ => ?_)
    | refine zPr.aI (fun _ => ?_)
    | refine zPr.aL (fun _ => ?_)
    | refine zPr.gd ?_
    | refine zPr.bw (S' := sX0_addToSeconds) (by assumption) (mX0_addToSeconds ..) (fun p hp => by simp only [sX0_addToSeconds, sX0_addPlanned, List.mem_cons, List.not_mem_nil, or_false] at hp ⊢ <;> omega) (fun _ _ => ?_)
    | refine zPr.bc (S' := sX0_bestFrom) (by assumption) (hg.2 ..) (fun p hp => by simp only [sX0_bestFrom, sX0_addPlanned, List.mem_cons, List.not_mem_nil, or_false] at hp ⊢ <;> omega) (fun _ _ _ => ?_)
    | refine zPr.bc (S' := sX4_tiredAlone) (by assumption) (mX4_tiredAlone ..) (fun p hp => by simp only [sX4_tiredAlone, sX0_addPlanned, List.mem_cons, List.not_mem_nil, or_false] at hp ⊢ <;> omega) (fun _ _ _ => ?_)
    | refine zPr.bc (S' := sX4_worthAlone) (by assumption) (mX4_worthAlone ..) (fun p hp => by simp only [sX4_worthAlone, sX0_addPlanned, List.mem_cons, List.not_mem_nil, or_false] at hp ⊢ <;> omega) (fun _ _ _ => ?_)
    | refine zPr.bnr (fun _ => ?_)
    | refine zPr.bnv (fun _ => ?_)
    | exact zPr.tail (S' := sX0_addPlanned) (by assumption) (hr57 ..) (fun _ h => h)
theorem mX0_addPlanned'_125 (g : TGX0_addPlanned) (hg : frGX0_addPlanned g) (r57 : Int32 → Int32 → Int32 → Int32 → Int32 → Int32 → Int32 → zS → Option zS) (hr57 : ∀ (x0 : Int32) (x1 : Int32) (x2 : Int32) (x3 : Int32) (x4 : Int32) (x5 : Int32) (x6 : Int32) (σ : zS), zPr (sX0_addPlanned σ.2.2) σ id (r57 x0 x1 x2 x3 x4 x5 x6 σ)) (x1 : Int32) (x3 : Int32) (x4 : Int32) (x5 : Int32) (x6 : Int32) (x7 : Int32) (x8 : Int32) (x9 : Int64) (σ : zS) : zPr (sX0_addPlanned σ.2.2) σ id (fX0_addPlanned'_125 g r57 x1 x3 x4 x5 x6 x7 x8 x9 σ) := by
  unfold fX0_addPlanned'_125
  have hc := zSm.rfl (sX0_addPlanned σ.2.2) σ
  repeat' first
    | exact zPr.none
    | exact zPr.some (by assumption)
    | refine zPr.ite ?_ ?_
    | refine zPr.wI (by assumption) (by simp only [sX0_addPlanned, List.mem_cons, List.not_mem_nil, or_false]; omega) (fun _ _ => ?_)
    | refine zPr.wL (by assumption) (by simp only [sX0_addPlanned, List.mem_cons, List.not_mem_nil, or_false]; omega) (fun _ _ => ?_)
    | refine zPr.bI (by assumption) (by simp only [sX0_addPlanned, List.mem_cons, List.not_mem_nil, or_false]; omega) (fun _ _ => ?_)
    | refine zPr.bL (by assumption) (by simp only [sX0_addPlanned, List.mem_cons, List.not_mem_nil, or_false]; omega) (fun _ _ => ?_)
    | refine zPr.wC (by assumption) (by simp only [sX0_addPlanned, List.mem_cons, List.not_mem_nil, or_false]; omega) (fun _ _ => ?_)
    | refine zPr.aI (fun _ => ?_)
    | refine zPr.aL (fun _ => ?_)
    | refine zPr.gd ?_
    | refine zPr.bw (S' := sX0_addToSeconds) (by assumption) (mX0_addToSeconds ..) (fun p hp => by simp only [sX0_addToSeconds, sX0_addPlanned, List.mem_cons, List.not_mem_nil, or_false] at hp ⊢ <;> omega) (fun _ _ => ?_)
    | refine zPr.bc (S' := sX0_bestFrom) (by assumption) (hg.2 ..) (fun p hp => by simp only [sX0_bestFrom, sX0_addPlanned, List.mem_cons, List.not_mem_nil, or_false] at hp ⊢ <;> omega) (fun _ _ _ => ?_)
    | refine zPr.bc (S' := sX4_tiredAlone) (by assumption) (mX4_tiredAlone ..) (fun p hp => by simp only [sX4_tiredAlone, sX0_addPlanned, List.mem_cons, List.not_mem_nil, or_false] at hp ⊢ <;> omega) (fun _ _ _ => ?_)
    | refine zPr.bc (S' := sX4_worthAlone) (by assumption) (mX4_worthAlone ..) (fun p hp => by simp only [sX4_worthAlone, sX0_addPlanned, List.mem_cons, List.not_mem_nil, or_false] at hp ⊢ <;> omega) (fun _ _ _ => ?_)
    | refine zPr.bnr (fun _ => ?_)
    | refine zPr.bnv (fun _ => ?_)
    | exact zPr.tail (S' := sX0_addPlanned) (by assumption) (hr57 ..) (fun _ h => h)
    | exact zPr.tail (S' := sX0_addPlanned) (by assumption) (mX0_addPlanned'_145 _ hg _ (by first | assumption | exact ih | (intros; apply ih) | (intros; apply mX0_addPlanned'_57)) ..) (fun _ h => h)
theorem mX0_addPlanned'_57 (g : TGX0_addPlanned) (hg : frGX0_addPlanned g) : ∀ (fuel : Nat) (x1 : Int32) (x3 : Int32) (x4 : Int32) (x5 : Int32) (x6 : Int32) (x7 : Int32) (x8 : Int32) (σ : zS), zPr (sX0_addPlanned σ.2.2) σ id (fX0_addPlanned'_57 g fuel x1 x3 x4 x5 x6 x7 x8 σ) := by
  intro fuel
  induction fuel with
  | zero => intro x1 x3 x4 x5 x6 x7 x8 σ; exact zPr.none
  | succ f ih =>
    intro x1 x3 x4 x5 x6 x7 x8 σ
    rw [fX0_addPlanned'_57]
    have hc := zSm.rfl (sX0_addPlanned σ.2.2) σ
    repeat' first
      | exact zPr.none
      | exact zPr.some (by assumption)
      | refine zPr.ite ?_ ?_
      | refine zPr.wI (by assumption) (by simp only [sX0_addPlanned, List.mem_cons, List.not_mem_nil, or_false]; omega) (fun _ _ => ?_)
      | refine zPr.wL (by assumption) (by simp only [sX0_addPlanned, List.mem_cons, List.not_mem_nil, or_false]; omega) (fun _ _ => ?_)
      | refine zPr.bI (by assumption) (by simp only [sX0_addPlanned, List.mem_cons, List.not_mem_nil, or_false]; omega) (fun _ _ => ?_)
      | refine zPr.bL (by assumption) (by simp only [sX0_addPlanned, List.mem_cons, List.not_mem_nil, or_false]; omega) (fun _ _ => ?_)
      | refine zPr.wC (by assumption) (by simp only [sX0_addPlanned, List.mem_cons, List.not_mem_nil, or_false]; omega) (fun _ _ => ?_)
      | refine zPr.aI (fun _ => ?_)
      | refine zPr.aL (fun _ => ?_)
      | refine zPr.gd ?_
      | refine zPr.bw (S' := sX0_addToSeconds) (by assumption) (mX0_addToSeconds ..) (fun p hp => by simp only [sX0_addToSeconds, sX0_addPlanned, List.mem_cons, List.not_mem_nil, or_false] at hp ⊢ <;> omega) (fun _ _ => ?_)
      | refine zPr.bc (S' := sX0_bestFrom) (by assumption) (hg.2 ..) (fun p hp => by simp only [sX0_bestFrom, sX0_addPlanned, List.mem_cons, List.not_mem_nil, or_false] at hp ⊢ <;> omega) (fun _ _ _ => ?_)
      | refine zPr.bc (S' := sX4_tiredAlone) (by assumption) (mX4_tiredAlone ..) (fun p hp => by simp only [sX4_tiredAlone, sX0_addPlanned, List.mem_cons, List.not_mem_nil, or_false] at hp ⊢ <;> omega) (fun _ _ _ => ?_)
      | refine zPr.bc (S' := sX4_worthAlone) (by assumption) (mX4_worthAlone ..) (fun p hp => by simp only [sX4_worthAlone, sX0_addPlanned, List.mem_cons, List.not_mem_nil, or_false] at hp ⊢ <;> omega) (fun _ _ _ => ?_)
      | refine zPr.bnr (fun _ => ?_)
      | refine zPr.bnv (fun _ => ?_)
      | exact zPr.tail (S' := sX0_addPlanned) (by assumption) (ih ..) (fun _ h => h)
      | exact zPr.tail (S' := sX0_addPlanned) (by assumption) (mX0_addPlanned'_145 _ hg _ (by first | assumption | exact ih | (intros; apply ih) | (intros; apply mX0_addPlanned'_57)) ..) (fun _ h => h)
      | exact zPr.tail (S' := sX0_addPlanned) (by assumption) (mX0_addPlanned'_125 _ hg _ (by first | assumption | exact ih | (intros; apply ih) | (intros; apply mX0_addPlanned'_57)) ..) (fun _ h => h)
theorem mX0_addPlanned'_52 (g : TGX0_addPlanned) (hg : frGX0_addPlanned g) (x1 : Int32) (x3 : Int32) (x4 : Int32) (x5 : Int32) (x6 : Int32) (s0 : Int32) (σ : zS) : zPr (sX0_addPlanned σ.2.2) σ id (fX0_addPlanned'_52 g x1 x3 x4 x5 x6 s0 σ) := by
  unfold fX0_addPlanned'_52
  have hc := zSm.rfl (sX0_addPlanned σ.2.2) σ
  repeat' first
    | exact zPr.none
    | exact zPr.some (by assumption)
    | refine zPr.ite ?_ ?_
    | refine zPr.wI (by assumption) (by simp only [sX0_addPlanned, List.mem_cons, List.not_mem_nil, or_false]; omega) (fun _ _ => ?_)
    | refine zPr.wL (by assumption) (by simp only [sX0_addPlanned, List.mem_cons, List.not_mem_nil, or_false]; omega) (fun _ _ => ?_)
    | refine zPr.bI (by assumption) (by simp only [sX0_addPlanned, List.mem_cons, List.not_mem_nil, or_false]; omega) (fun _ _ => ?_)
    | refine zPr.bL (by assumption) (by simp only [sX0_addPlanned, List.mem_cons, List.not_mem_nil, or_false]; omega) (fun _ _ => ?_)
    | refine zPr.wC (by assumption) (by simp only [sX0_addPlanned, List.mem_cons, List.not_mem_nil, or_false]; omega) (fun _ _ => ?_)
    | refine zPr.aI (fun _ => ?_)
    | refine zPr.aL (fun _ => ?_)
    | refine zPr.gd ?_
    | refine zPr.bw (S' := sX0_addToSeconds) (by assumption) (mX0_addToSeconds ..) (fun p hp => by simp only [sX0_addToSeconds, sX0_addPlanned, List.mem_cons, List.not_mem_nil, or_false] at hp ⊢ <;> omega) (fun _ _ => ?_)
    | refine zPr.bc (S' := sX0_bestFrom) (by assumption) (hg.2 ..) (fun p hp => by simp only [sX0_bestFrom, sX0_addPlanned, List.mem_cons, List.not_mem_nil, or_false] at hp ⊢ <;> omega) (fun _ _ _ => ?_)
    | refine zPr.bc (S' := sX4_tiredAlone) (by assumption) (mX4_tiredAlone ..) (fun p hp => by simp only [sX4_tiredAlone, sX0_addPlanned, List.mem_cons, List.not_mem_nil, or_false] at hp ⊢ <;> omega) (fun _ _ _ => ?_)
    | refine zPr.bc (S' := sX4_worthAlone) (by assumption) (mX4_worthAlone ..) (fun p hp => by simp only [sX4_worthAlone, sX0_addPlanned, List.mem_cons, List.not_mem_nil, or_false] at hp ⊢ <;> omega) (fun _ _ _ => ?_)
    | refine zPr.bnr (fun _ => ?_)
    | refine zPr.bnv (fun _ => ?_)
    | exact zPr.tail (S' := sX0_addPlanned) (by assumption) (mX0_addPlanned'_145 _ hg _ (by first | assumption | exact ih | (intros; apply ih) | (intros; apply mX0_addPlanned'_57)) ..) (fun _ h => h)
    | exact zPr.tail (S' := sX0_addPlanned) (by assumption) (mX0_addPlanned'_125 _ hg _ (by first | assumption | exact ih | (intros; apply ih) | (intros; apply mX0_addPlanned'_57)) ..) (fun _ h => h)
    | exact zPr.tail (S' := sX0_addPlanned) (by assumption) (mX0_addPlanned'_57 _ hg ..) (fun _ h => h)
theorem mX0_addPlanned' (g : TGX0_addPlanned) (hg : frGX0_addPlanned g) (p1 : Int32) (p2 : Int32) (p3 : Int32) (σ : zS) : zPr (sX0_addPlanned σ.2.2) σ id (fX0_addPlanned' g p1 p2 p3 σ) := by
  unfold fX0_addPlanned'
  have hc := zSm.rfl (sX0_addPlanned σ.2.2) σ
  repeat' first
    | exact zPr.none
    | exact zPr.some (by assumption)
    | refine zPr.ite ?_ ?_
    | refine zPr.wI (by assumption) (by simp only [sX0_addPlanned, List.mem_cons, List.not_mem_nil, or_false]; omega) (fun _ _ => ?_)
    | refine zPr.wL (by assumption) (by simp only [sX0_addPlanned, List.mem_cons, List.not_mem_nil, or_false]; omega) (fun _ _ => ?_)
    | refine zPr.bI (by assumption) (by simp only [sX0_addPlanned, List.mem_cons, List.not_mem_nil, or_false]; omega) (fun _ _ => ?_)
    | refine zPr.bL (by assumption) (by simp only [sX0_addPlanned, List.mem_cons, List.not_mem_nil, or_false]; omega) (fun _ _ => ?_)
    | refine zPr.wC (by assumption) (by simp only [sX0_addPlanned, List.mem_cons, List.not_mem_nil, or_false]; omega) (fun _ _ => ?_)
    | refine zPr.aI (fun _ => ?_)
    | refine zPr.aL (fun _ => ?_)
    | refine zPr.gd ?_
    | refine zPr.bw (S' := sX0_addToSeconds) (by assumption) (mX0_addToSeconds ..) (fun p hp => by simp only [sX0_addToSeconds, sX0_addPlanned, List.mem_cons, List.not_mem_nil, or_false] at hp ⊢ <;> omega) (fun _ _ => ?_)
    | refine zPr.bc (S' := sX0_bestFrom) (by assumption) (hg.2 ..) (fun p hp => by simp only [sX0_bestFrom, sX0_addPlanned, List.mem_cons, List.not_mem_nil, or_false] at hp ⊢ <;> omega) (fun _ _ _ => ?_)
    | refine zPr.bc (S' := sX4_tiredAlone) (by assumption) (mX4_tiredAlone ..) (fun p hp => by simp only [sX4_tiredAlone, sX0_addPlanned, List.mem_cons, List.not_mem_nil, or_false] at hp ⊢ <;> omega) (fun _ _ _ => ?_)
    | refine zPr.bc (S' := sX4_worthAlone) (by assumption) (mX4_worthAlone ..) (fun p hp => by simp only [sX4_worthAlone, sX0_addPlanned, List.mem_cons, List.not_mem_nil, or_false] at hp ⊢ <;> omega) (fun _ _ _ => ?_)
    | refine zPr.bnr (fun _ => ?_)
    | refine zPr.bnv (fun _ => ?_)
    | exact zPr.tail (S' := sX0_addPlanned) (by assumption) (mX0_addPlanned'_145 _ hg _ (by first | assumption | exact ih | (intros; apply ih) | (intros; apply mX0_addPlanned'_57)) ..) (fun _ h => h)
    | exact zPr.tail (S' := sX0_addPlanned) (by assumption) (mX0_addPlanned'_125 _ hg _ (by first | assumption | exact ih | (intros; apply ih) | (intros; apply mX0_addPlanned'_57)) ..) (fun _ h => h)
    | exact zPr.tail (S' := sX0_addPlanned) (by assumption) (mX0_addPlanned'_57 _ hg ..) (fun _ h => h)
    | exact zPr.tail (S' := sX0_addPlanned) (by assumption) (mX0_addPlanned'_52 _ hg ..) (fun _ h => h)
theorem mX0_bestFrom'_106 (g : TGX0_addPlanned) (hg : frGX0_addPlanned g) (x2 : Int32) (x3 : Int32) (σ : zS) : zPr (sX0_bestFrom σ.2.2) σ Prod.snd (fX0_bestFrom'_106 g x2 x3 σ) := by
  unfold fX0_bestFrom'_106
  have hc := zSm.rfl (sX0_bestFrom σ.2.2) σ
  repeat' first
    | exact zPr.none
    | exact zPr.some (by assumption)
    | refine zPr.ite ?_ ?_
    | refine zPr.wI (by assumption) (by simp only [sX0_bestFrom, List.mem_cons, List.not_mem_nil, or_false]; omega) (fun _ _ => ?_)
    | refine zPr.wL (by assumption) (by simp only [sX0_bestFrom, List.mem_cons, List.not_mem_nil, or_false]; omega) (fun _ _ => ?_)
    | refine zPr.bI (by assumption) (by simp only [sX0_bestFrom, List.mem_cons, List.not_mem_nil, or_false]; omega) (fun _ _ => ?_)
    | refine zPr.bL (by assumption) (by simp only [sX0_bestFrom, List.mem_cons, List.not_mem_nil, or_false]; omega) (fun _ _ => ?_)
    | refine zPr.wC (by assumption) (by simp only [sX0_bestFrom, List.mem_cons, List.not_mem_nil, or_false]; omega) (fun _ _ => ?_)
    | refine zPr.aI (fun _ => ?_)
    | refine zPr.aL (fun _ => ?_)
    | refine zPr.gd ?_
    | refine zPr.bw (S' := sJ7_fill_bad5a _) (by assumption) (mJ7_fill_bad5a ..) (fun p hp => by simp only [sJ7_fill_bad5a, sX0_bestFrom, List.mem_cons, List.not_mem_nil, or_false] at hp ⊢ <;> omega) (fun _ _ => ?_)
    | refine zPr.bw (S' := sX0_addPlanned) (by assumption) (hg.1 ..) (fun p hp => by simp only [sX0_addPlanned, sX0_bestFrom, List.mem_cons, List.not_mem_nil, or_false] at hp ⊢ <;> omega) (fun _ _ => ?_)
    | refine zPr.bnr (fun _ => ?_)
    | refine zPr.bnv (fun _ => ?_)
theorem mX0_bestFrom'_64 (g : TGX0_addPlanned) (hg : frGX0_addPlanned g) : ∀ (fuel : Nat) (x1 : Int32) (x2 : Int32) (x3 : Int32) (x4 : Int32) (x5 : Int32) (σ : zS), zPr (sX0_bestFrom σ.2.2) σ Prod.snd (fX0_bestFrom'_64 g fuel x1 x2 x3 x4 x5 σ) := by
  intro fuel
  induction fuel with
  | zero => intro x1 x2 x3 x4 x5 σ; exact zPr.none
  | succ f ih =>
    intro x1 x2 x3 x4 x5 σ
    rw [fX0_bestFrom'_64]
    have hc := zSm.rfl (sX0_bestFrom σ.2.2) σ
    repeat' first
      | exact zPr.none
      | exact zPr.some (by assumption)
      | refine zPr.ite ?_ ?_
      | refine zPr.wI (by assumption) (by simp only [sX0_bestFrom, List.mem_cons, List.not_mem_nil, or_false]; omega) (fun _ _ => ?_)
      | refine zPr.wL (by assumption) (by simp only [sX0_bestFrom, List.mem_cons, List.not_mem_nil, or_false]; omega) (fun _ _ => ?_)
      | refine zPr.bI (by assumption) (by simp only [sX0_bestFrom, List.mem_cons, List.not_mem_nil, or_false]; omega) (fun _ _ => ?_)
      | refine zPr.bL (by assumption) (by simp only [sX0_bestFrom, List.mem_cons, List.not_mem_nil, or_false]; omega) (fun _ _ => ?_)
      | refine zPr.wC (by assumption) (by simp only [sX0_bestFrom, List.mem_cons, List.not_mem_nil, or_false]; omega) (fun _ _ => ?_)
      | refine zPr.aI (fun _ => ?_)
      | refine zPr.aL (fun _ => ?_)
      | refine zPr.gd ?_
      | refine zPr.bw (S' := sJ7_fill_bad5a _) (by assumption) (mJ7_fill_bad5a ..) (fun p hp => by simp only [sJ7_fill_bad5a, sX0_bestFrom, List.mem_cons, List.not_mem_nil, or_false] at hp ⊢ <;> omega) (fun _ _ => ?_)
      | refine zPr.bw (S' := sX0_addPlanned) (by assumption) (hg.1 ..) (fun p hp => by simp only [sX0_addPlanned, sX0_bestFrom, List.mem_cons, List.not_mem_nil, or_false] at hp ⊢ <;> omega) (fun _ _ => ?_)
      | refine zPr.bnr (fun _ => ?_)
      | refine zPr.bnv (fun _ => ?_)
      | exact zPr.tail (S' := sX0_bestFrom) (by assumption) (ih ..) (fun _ h => h)
      | exact zPr.tail (S' := sX0_bestFrom) (by assumption) (mX0_bestFrom'_106 _ hg ..) (fun _ h => h)
theorem mX0_bestFrom' (g : TGX0_addPlanned) (hg : frGX0_addPlanned g) (p1 : Int32) (p2 : Int32) (σ : zS) : zPr (sX0_bestFrom σ.2.2) σ Prod.snd (fX0_bestFrom' g p1 p2 σ) := by
  unfold fX0_bestFrom'
  have hc := zSm.rfl (sX0_bestFrom σ.2.2) σ
  repeat' first
    | exact zPr.none
    | exact zPr.some (by assumption)
    | refine zPr.ite ?_ ?_
    | refine zPr.wI (by assumption) (by simp only [sX0_bestFrom, List.mem_cons, List.not_mem_nil, or_false]; omega) (fun _ _ => ?_)
    | refine zPr.wL (by assumption) (by simp only [sX0_bestFrom, List.mem_cons, List.not_mem_nil, or_false]; omega) (fun _ _ => ?_)
    | refine zPr.bI (by assumption) (by simp only [sX0_bestFrom, List.mem_cons, List.not_mem_nil, or_false]; omega) (fun _ _ => ?_)
    | refine zPr.bL (by assumption) (by simp only [sX0_bestFrom, List.mem_cons, List.not_mem_nil, or_false]; omega) (fun _ _ => ?_)
    | refine zPr.wC (by assumption) (by simp only [sX0_bestFrom, List.mem_cons, List.not_mem_nil, or_false]; omega) (fun _ _ => ?_)
    | refine zPr.aI (fun _ => ?_)
    | refine zPr.aL (fun _ => ?_)
    | refine zPr.gd ?_
    | refine zPr.bw (S' := sJ7_fill_bad5a _) (by assumption) (mJ7_fill_bad5a ..) (fun p hp => by simp only [sJ7_fill_bad5a, sX0_bestFrom, List.mem_cons, List.not_mem_nil, or_false] at hp ⊢ <;> omega) (fun _ _ => ?_)
    | refine zPr.bw (S' := sX0_addPlanned) (by assumption) (hg.1 ..) (fun p hp => by simp only [sX0_addPlanned, sX0_bestFrom, List.mem_cons, List.not_mem_nil, or_false] at hp ⊢ <;> omega) (fun _ _ => ?_)
    | refine zPr.bnr (fun _ => ?_)
    | refine zPr.bnv (fun _ => ?_)
    | exact zPr.tail (S' := sX0_bestFrom) (by assumption) (mX0_bestFrom'_106 _ hg ..) (fun _ h => h)
    | exact zPr.tail (S' := sX0_bestFrom) (by assumption) (mX0_bestFrom'_64 _ hg ..) (fun _ h => h)
theorem gfrGX0_addPlanned : ∀ n, frGX0_addPlanned (ggGX0_addPlanned n)
  | 0 => ⟨fun _ _ _ _ => zPr.none, fun _ _ _ => zPr.none⟩
  | n + 1 => ⟨fun p1 p2 p3 σ => mX0_addPlanned' (ggGX0_addPlanned n) (gfrGX0_addPlanned n) p1 p2 p3 σ, fun p1 p2 σ => mX0_bestFrom' (ggGX0_addPlanned n) (gfrGX0_addPlanned n) p1 p2 σ⟩
theorem mX0_addPlanned (n : Nat) (p1 : Int32) (p2 : Int32) (p3 : Int32) (σ : zS) : zPr (sX0_addPlanned σ.2.2) σ id (fX0_addPlanned n p1 p2 p3 σ) := (gfrGX0_addPlanned n).1 p1 p2 p3 σ
theorem mX0_bestFrom (n : Nat) (p1 : Int32) (p2 : Int32) (σ : zS) : zPr (sX0_bestFrom σ.2.2) σ Prod.snd (fX0_bestFrom n p1 p2 σ) := (gfrGX0_addPlanned n).2 p1 p2 σ
def sX0_plan (t : Bool × Bool × Bool) : List Nat := [rp t.2.1 + 11, rp t.2.1 + 13, 26, 27, 28, 29, 30]
theorem mX0_plan_52 : ∀ (fuel : Nat) (x3 : Int32) (x4 : Int32) (σ : zS), zPr (sX0_plan σ.2.2) σ id (fX0_plan_52 fuel x3 x4 σ) := by
  intro fuel
  induction fuel with
  | zero => intro x3 x4 σ; exact zPr.none
  | succ f ih =>
    intro x3 x4 σ
    rw [fX0_plan_52]
    have hc := zSm.rfl (sX0_plan σ.2.2) σ
    repeat' first
      | exact zPr.none
      | exact zPr.some (by assumption)
      | refine zPr.ite ?_ ?_
      | refine zPr.wI (by assumption) (by simp only [sX0_plan, List.mem_cons, List.not_mem_nil, or_false]; omega) (fun _ _ => ?_)
      | refine zPr.wL (by assumption) (by simp only [sX0_plan, List.mem_cons, List.not_mem_nil, or_false]; omega) (fun _ _ => ?_)
      | refine zPr.bI (by assumption) (by simp only [sX0_plan, List.mem_cons, List.not_mem_nil, or_false]; omega) (fun _ _ => ?_)
      | refine zPr.bL (by assumption) (by simp only [sX0_plan, List.mem_cons, List.not_mem_nil, or_false]; omega) (fun _ _ => ?_)
      | refine zPr.wC (by assumption) (by simp only [sX0_plan, List.mem_cons, List.not_mem_nil, or_false]; omega) (fun _ _ => ?_)
      | refine zPr.aI (fun _ => ?_)
      | refine zPr.aL (fun _ => ?_)
      | refine zPr.gd ?_
      | refine zPr.bw (S' := sJ7_fill_d0a16 _) (by assumption) (mJ7_fill_d0a16 ..) (fun p hp => by simp only [sJ7_fill_d0a16, sX0_plan, List.mem_cons, List.not_mem_nil, or_false] at hp ⊢ <;> omega) (fun _ _ => ?_)
      | refine zPr.bc (S' := sX0_bestFrom) (by assumption) (mX0_bestFrom ..) (fun p hp => by simp only [sX0_bestFrom, sX0_plan, List.mem_cons, List.not_mem_nil, or_false] at hp ⊢ <;> omega) (fun _ _ _ => ?_)
      | refine zPr.bnr (fun _ => ?_)
      | refine zPr.bnv (fun _ => ?_)
      | exact zPr.tail (S' := sX0_plan) (by assumption) (ih ..) (fun _ h => h)
theorem mX0_plan_25 (x1 : Int32) (x2 : Int32) (x3 : Int32) (σ : zS) : zPr (sX0_plan σ.2.2) σ id (fX0_plan_25 x1 x2 x3 σ) := by
  unfold fX0_plan_25
  have hc := zSm.rfl (sX0_plan σ.2.2) σ
  repeat' first
    | exact zPr.none
    | exact zPr.some (by assumption)
    | refine zPr.ite ?_ ?_
    | refine zPr.wI (by assumption) (by simp only [sX0_plan, List.mem_cons, List.not_mem_nil, or_false]; omega) (fun _ _ => ?_)
    | refine zPr.wL (by assumption) (by simp only [sX0_plan, List.mem_cons, List.not_mem_nil, or_false]; omega) (fun _ _ => ?_)
    | refine zPr.bI (by assumption) (by simp only [sX0_plan, List.mem_cons, List.not_mem_nil, or_false]; omega) (fun _ _ => ?_)
    | refine zPr.bL (by assumption) (by simp only [sX0_plan, List.mem_cons, List.not_mem_nil, or_false]; omega) (fun _ _ => ?_)
    | refine zPr.wC (by assumption) (by simp only [sX0_plan, List.mem_cons, List.not_mem_nil, or_false]; omega) (fun _ _ => ?_)
    | refine zPr.aI (fun _ => ?_)
    | refine zPr.aL (fun _ => ?_)
    | refine zPr.gd ?_
    | refine zPr.bw (S' := sJ7_fill_d0a16 _) (by assumption) (mJ7_fill_d0a16 ..) (fun p hp => by simp only [sJ7_fill_d0a16, sX0_plan, List.mem_cons, List.not_mem_nil, or_false] at hp ⊢ <;> omega) (fun _ _ => ?_)
    | refine zPr.bc (S' := sX0_bestFrom) (by assumption) (mX0_bestFrom ..) (fun p hp => by simp only [sX0_bestFrom, sX0_plan, List.mem_cons, List.not_mem_nil, or_false] at hp ⊢ <;> omega) (fun _ _ _ => ?_)
    | refine zPr.bnr (fun _ => ?_)
    | refine zPr.bnv (fun _ => ?_)
    | exact zPr.tail (S' := sX0_plan) (by assumption) (mX0_plan_52 ..) (fun _ h => h)
theorem mX0_plan (p1 : Int32) (p2 : Int32) (p3 : Int32) (σ : zS) : zPr (sX0_plan σ.2.2) σ id (fX0_plan p1 p2 p3 σ) := by
  unfold fX0_plan
  have hc := zSm.rfl (sX0_plan σ.2.2) σ
  repeat' first
    | exact zPr.none
    | exact zPr.some (by assumption)
    | refine zPr.ite ?_ ?_
    | refine zPr.wI (by assumption) (by simp only [sX0_plan, List.mem_cons, List.not_mem_nil, or_false]; omega) (fun _ _ => ?_)
    | refine zPr.wL (by assumption) (by simp only [sX0_plan, List.mem_cons, List.not_mem_nil, or_false]; omega) (fun _ _ => ?_)
    | refine zPr.bI (by assumption) (by simp only [sX0_plan, List.mem_cons, List.not_mem_nil, or_false]; omega) (fun _ _ => ?_)
    | refine zPr.bL (by assumption) (by simp only [sX0_plan, List.mem_cons, List.not_mem_nil, or_false]; omega) (fun _ _ => ?_)
    | refine zPr.wC (by assumption) (by simp only [sX0_plan, List.mem_cons, List.not_mem_nil, or_false]; omega) (fun _ _ => ?_)
    | refine zPr.aI (fun _ => ?_)
    | refine zPr.aL (fun _ => ?_)
    | refine zPr.gd ?_
    | refine zPr.bw (S' := sJ7_fill_d0a16 _) (by assumption) (mJ7_fill_d0a16 ..) (fun p hp => by simp only [sJ7_fill_d0a16, sX0_plan, List.mem_cons, List.not_mem_nil, or_false] at hp ⊢ <;> omega) (fun _ _ => ?_)
    | refine zPr.bc (S' := sX0_bestFrom) (by assumption) (mX0_bestFrom ..) (fun p hp => by simp only [sX0_bestFrom, sX0_plan, List.mem_cons, List.not_mem_nil, or_false] at hp ⊢ <;> omega) (fun _ _ _ => ?_)
    | refine zPr.bnr (fun _ => ?_)
    | refine zPr.bnv (fun _ => ?_)
    | exact zPr.tail (S' := sX0_plan) (by assumption) (mX0_plan_52 ..) (fun _ h => h)
    | exact zPr.tail (S' := sX0_plan) (by assumption) (mX0_plan_25 ..) (fun _ h => h)
def sX10_alone (t : Bool × Bool × Bool) : List Nat := [rp t.2.1 + 11, rp t.2.1 + 13, 26, 27, 28, 29, 30]
theorem mX10_alone (p1 : Int32) (p2 : Int32) (p3 : Int32) (σ : zS) : zPr (sX10_alone σ.2.2) σ Prod.snd (fX10_alone p1 p2 p3 σ) := by
  unfold fX10_alone
  have hc := zSm.rfl (sX10_alone σ.2.2) σ
  repeat' first
    | exact zPr.none
    | exact zPr.some (by assumption)
    | refine zPr.ite ?_ ?_
    | refine zPr.wI (by assumption) (by simp only [sX10_alone, List.mem_cons, List.not_mem_nil, or_false]; omega) (fun _ _ => ?_)
    | refine zPr.wL (by assumption) (by simp only [sX10_alone, List.mem_cons, List.not_mem_nil, or_false]; omega) (fun _ _ => ?_)
    | refine zPr.bI (by assumption) (by simp only [sX10_alone, List.mem_cons, List.not_mem_nil, or_false]; omega) (fun _ _ => ?_)
    | refine zPr.bL (by assumption) (by simp only [sX10_alone, List.mem_cons, List.not_mem_nil, or_false]; omega) (fun _ _ => ?_)
    | refine zPr.wC (by assumption) (by simp only [sX10_alone, List.mem_cons, List.not_mem_nil, or_false]; omega) (fun _ _ => ?_)
    | refine zPr.aI (fun _ => ?_)
    | refine zPr.aL (fun _ => ?_)
    | refine zPr.gd ?_
    | refine zPr.bw (S' := sX0_plan) (by assumption) (mX0_plan ..) (fun p hp => by simp only [sX0_plan, sX10_alone, List.mem_cons, List.not_mem_nil, or_false] at hp ⊢ <;> omega) (fun _ _ => ?_)
    | refine zPr.bnr (fun _ => ?_)
    | refine zPr.bnv (fun _ => ?_)
def sX10_on (t : Bool × Bool × Bool) : List Nat := [rp t.2.1 + 11, rp t.2.1 + 13, 26, 27, 28, 29, 30]
theorem mX10_on (p1 : Int32) (p2 : Int32) (p3 : Int32) (σ : zS) : zPr (sX10_on σ.2.2) σ Prod.snd (fX10_on p1 p2 p3 σ) := by
  unfold fX10_on
  have hc := zSm.rfl (sX10_on σ.2.2) σ
  repeat' first
    | exact zPr.none
    | exact zPr.some (by assumption)
    | refine zPr.ite ?_ ?_
    | refine zPr.wI (by assumption) (by simp only [sX10_on, List.mem_cons, List.not_mem_nil, or_false]; omega) (fun _ _ => ?_)
    | refine zPr.wL (by assumption) (by simp only [sX10_on, List.mem_cons, List.not_mem_nil, or_false]; omega) (fun _ _ => ?_)
    | refine zPr.bI (by assumption) (by simp only [sX10_on, List.mem_cons, List.not_mem_nil, or_false]; omega) (fun _ _ => ?_)
    | refine zPr.bL (by assumption) (by simp only [sX10_on, List.mem_cons, List.not_mem_nil, or_false]; omega) (fun _ _ => ?_)
    | refine zPr.wC (by assumption) (by simp only [sX10_on, List.mem_cons, List.not_mem_nil, or_false]; omega) (fun _ _ => ?_)
    | refine zPr.aI (fun _ => ?_)
    | refine zPr.aL (fun _ => ?_)
    | refine zPr.gd ?_
    | refine zPr.bw (S' := sX0_plan) (by assumption) (mX0_plan ..) (fun p hp => by simp only [sX0_plan, sX10_on, List.mem_cons, List.not_mem_nil, or_false] at hp ⊢ <;> omega) (fun _ _ => ?_)
    | refine zPr.bnr (fun _ => ?_)
    | refine zPr.bnv (fun _ => ?_)
def sX0_fillAgainstOthers (t : Bool × Bool × Bool) : List Nat := [rp t.2.1 + 11, rp t.2.1 + 13, 25, 26, 28]
theorem mX0_fillAgainstOthers_167 (r14 : Int32 → Int32 → Int32 → Int32 → zS → Option zS) (r111 : Int32 → Int32 → Int32 → Int32 → Int32 → Int64 → Int32 → zS → Option zS) (hr14 : ∀ (x0 : Int32) (x1 : Int32) (x2 : Int32) (x3 : Int32) (σ : zS), zPr (sX0_fillAgainstOthers σ.2.2) σ id (r14 x0 x1 x2 x3 σ)) (hr111 : ∀ (x0 : Int32) (x1 : Int32) (x2 : Int32) (x3 : Int32) (x4 : Int32) (x5 : Int64) (x6 : Int32) (σ : zS), zPr (sX0_fillAgainstOthers σ.2.2) σ id (r111 x0 x1 x2 x3 x4 x5 x6 σ)) (x1 : Int32) (x2 : Int32) (x3 : Int32) (x4 : Int32) (x5 : Int32) (x6 : Int64) (x8 : Int32) (x9 : Int64) (s0 : Int32) (s1 : Int32) (s2 : Int32) (σ : zS) : zPr (sX0_fillAgainstOthers σ.2.2) σ id (fX0_fillAgainstOthers_167 r14 r111 x1 x2 x3 x4 x5 x6 x8 x9 s0 s1 s2 σ) := by
  unfold fX0_fillAgainstOthers_167
  have hc := zSm.rfl (sX0_fillAgainstOthers σ.2.2) σ
  repeat' first
    | exact zPr.none
    | exact zPr.some (by assumption)
    | refine zPr.ite ?_ ?_
    | refine zPr.wI (by assumption) (by simp only [sX0_fillAgainstOthers, List.mem_cons, List.not_mem_nil, or_false]; omega) (fun _ _ => ?_)
    | refine zPr.wL (by assumption) (by simp only [sX0_fillAgainstOthers, List.mem_cons, List.not_mem_nil, or_false]; omega) (fun _ _ => ?_)
    | refine zPr.bI (by assumption) (by simp only [sX0_fillAgainstOthers, List.mem_cons, List.not_mem_nil, or_false]; omega) (fun _ _ => ?_)
    | refine zPr.bL (by assumption) (by simp only [sX0_fillAgainstOthers, List.mem_cons, List.not_mem_nil, or_false]; omega) (fun _ _ => ?_)
    | refine zPr.wC (by assumption) (by simp only [sX0_fillAgainstOthers, List.mem_cons, List.not_mem_nil, or_false]; omega) (fun _ _ => ?_)
    | refine zPr.aI (fun _ => ?_)
    | refine zPr.aL (fun _ => ?_)
    | refine zPr.gd ?_
    | refine zPr.bw (S' := sJ7_fill_bad5a _) (by assumption) (mJ7_fill_bad5a ..) (fun p hp => by simp only [sJ7_fill_bad5a, sX0_fillAgainstOthers, List.mem_cons, List.not_mem_nil, or_false] at hp ⊢ <;> omega) (fun _ _ => ?_)
    | refine zPr.bw (S' := sX0_addToSeconds) (by assumption) (mX0_addToSeconds ..) (fun p hp => by simp only [sX0_addToSeconds, sX0_fillAgainstOthers, List.mem_cons, List.not_mem_nil, or_false] at hp ⊢ <;> omega) (fun _ _ => ?_)
    | refine zPr.bc (S' := sX4_worthAmong) (by assumption) (mX4_worthAmong ..) (fun p hp => by simp only [sX4_worthAmong, sX0_fillAgainstOthers, List.mem_cons, List.not_mem_nil, or_false] at hp ⊢ <;> omega) (fun _ _ _ => ?_)
    | refine zPr.bnr (fun _ => ?_)
    | refine zPr.bnv (fun _ => ?_)
    | exact zPr.tail (S' := sX0_fillAgainstOthers) (by assumption) (hr14 ..) (fun _ h => h)
    | exact zPr.tail (S' := sX0_fillAgainstOthers) (by assumption) (hr111 ..) (fun _ h => h)
theorem mX0_fillAgainstOthers_111 (r14 : Int32 → Int32 → Int32 → Int32 → zS → Option zS) (hr14 : ∀ (x0 : Int32) (x1 : Int32) (x2 : Int32) (x3 : Int32) (σ : zS), zPr (sX0_fillAgainstOthers σ.2.2) σ id (r14 x0 x1 x2 x3 σ)) : ∀ (fuel : Nat) (x1 : Int32) (x2 : Int32) (x3 : Int32) (x4 : Int32) (x5 : Int32) (x6 : Int64) (x8 : Int32) (σ : zS), zPr (sX0_fillAgainstOthers σ.2.2) σ id (fX0_fillAgainstOthers_111 r14 fuel x1 x2 x3 x4 x5 x6 x8 σ) := by
  intro fuel
  induction fuel with
  | zero => intro x1 x2 x3 x4 x5 x6 x8 σ; exact zPr.none
  | succ f ih =>
    intro x1 x2 x3 x4 x5 x6 x8 σ
    rw [fX0_fillAgainstOthers_111]
    have hc := zSm.rfl (sX0_fillAgainstOthers σ.2.2) σ
    repeat' first
      | exact zPr.none
      | exact zPr.some (by assumption)
      | refine zPr.ite ?_ ?_
      | refine zPr.wI (by assumption) (by simp only [sX0_fillAgainstOthers, List.mem_cons, List.not_mem_nil, or_false]; omega) (fun _ _ => ?_)
      | refine zPr.wL (by assumption) (by simp only [sX0_fillAgainstOthers, List.mem_cons, List.not_mem_nil, or_false]; omega) (fun _ _ => ?_)
      | refine zPr.bI (by assumption) (by simp only [sX0_fillAgainstOthers, List.mem_cons, List.not_mem_nil, or_false]; omega) (fun _ _ => ?_)
      | refine zPr.bL (by assumption) (by simp only [sX0_fillAgainstOthers, List.mem_cons, List.not_mem_nil, or_false]; omega) (fun _ _ => ?_)
      | refine zPr.wC (by assumption) (by simp only [sX0_fillAgainstOthers, List.mem_cons, List.not_mem_nil, or_false]; omega) (fun _ _ => ?_)
      | refine zPr.aI (fun _ => ?_)
      | refine zPr.aL (fun _ => ?_)
      | refine zPr.gd ?_
      | refine zPr.bw (S' := sJ7_fill_bad5a _) (by assumption) (mJ7_fill_bad5a ..) (fun p hp => by simp only [sJ7_fill_bad5a, sX0_fillAgainstOthers, List.mem_cons, List.not_mem_nil, or_false] at hp ⊢ <;> omega) (fun _ _ => ?_)
      | refine zPr.bw (S' := sX0_addToSeconds) (by assumption) (mX0_addToSeconds ..) (fun p hp => by simp only [sX0_addToSeconds, sX0_fillAgainstOthers, List.mem_cons, List.not_mem_nil, or_false] at hp ⊢ <;> omega) (fun _ _ => ?_)
      | refine zPr.bc (S' := sX4_worthAmong) (by assumption) (mX4_worthAmong ..) (fun p hp => by simp only [sX4_worthAmong, sX0_fillAgainstOthers, List.mem_cons, List.not_mem_nil, or_false] at hp ⊢ <;> omega) (fun _ _ _ => ?_)
      | refine zPr.bnr (fun _ => ?_)
      | refine zPr.bnv (fun _ => ?_)
      | exact zPr.tail (S' := sX0_fillAgainstOthers) (by assumption) (ih ..) (fun _ h => h)
      | exact zPr.tail (S' := sX0_fillAgainstOthers) (by assumption) (hr14 ..) (fun _ h => h)
      | exact zPr.tail (S' := sX0_fillAgainstOthers) (by assumption) (mX0_fillAgainstOthers_167 _ _ (by first | assumption | exact ih | (intros; apply ih) | (intros; apply mX0_fillAgainstOthers_14)) (by first | assumption | exact ih | (intros; apply ih) | (intros; apply mX0_fillAgainstOthers_111)) ..) (fun _ h => h)
theorem mX0_fillAgainstOthers_65 (r14 : Int32 → Int32 → Int32 → Int32 → zS → Option zS) (hr14 : ∀ (x0 : Int32) (x1 : Int32) (x2 : Int32) (x3 : Int32) (σ : zS), zPr (sX0_fillAgainstOthers σ.2.2) σ id (r14 x0 x1 x2 x3 σ)) : ∀ (fuel : Nat) (x1 : Int32) (x2 : Int32) (x3 : Int32) (x4 : Int32) (x5 : Int32) (x6 : Int64) (x8 : Int32) (σ : zS), zPr (sX0_fillAgainstOthers σ.2.2) σ id (fX0_fillAgainstOthers_65 r14 fuel x1 x2 x3 x4 x5 x6 x8 σ) := by
  intro fuel
  induction fuel with
  | zero => intro x1 x2 x3 x4 x5 x6 x8 σ; exact zPr.none
  | succ f ih =>
    intro x1 x2 x3 x4 x5 x6 x8 σ
    rw [fX0_fillAgainstOthers_65]
    have hc := zSm.rfl (sX0_fillAgainstOthers σ.2.2) σ
    repeat' first
      | exact zPr.none
      | exact zPr.some (by assumption)
      | refine zPr.ite ?_ ?_
      | refine zPr.wI (by assumption) (by simp only [sX0_fillAgainstOthers, List.mem_cons, List.not_mem_nil, or_false]; omega) (fun _ _ => ?_)
      | refine zPr.wL (by assumption) (by simp only [sX0_fillAgainstOthers, List.mem_cons, List.not_mem_nil, or_false]; omega) (fun _ _ => ?_)
      | refine zPr.bI (by assumption) (by simp only [sX0_fillAgainstOthers, List.mem_cons, List.not_mem_nil, or_false]; omega) (fun _ _ => ?_)
      | refine zPr.bL (by assumption) (by simp only [sX0_fillAgainstOthers, List.mem_cons, List.not_mem_nil, or_false]; omega) (fun _ _ => ?_)
      | refine zPr.wC (by assumption) (by simp only [sX0_fillAgainstOthers, List.mem_cons, List.not_mem_nil, or_false]; omega) (fun _ _ => ?_)
      | refine zPr.aI (fun _ => ?_)
      | refine zPr.aL (fun _ => ?_)
      | refine zPr.gd ?_
      | refine zPr.bw (S' := sJ7_fill_bad5a _) (by assumption) (mJ7_fill_bad5a ..) (fun p hp => by simp only [sJ7_fill_bad5a, sX0_fillAgainstOthers, List.mem_cons, List.not_mem_nil, or_false] at hp ⊢ <;> omega) (fun _ _ => ?_)
      | refine zPr.bw (S' := sX0_addToSeconds) (by assumption) (mX0_addToSeconds ..) (fun p hp => by simp only [sX0_addToSeconds, sX0_fillAgainstOthers, List.mem_cons, List.not_mem_nil, or_false] at hp ⊢ <;> omega) (fun _ _ => ?_)
      | refine zPr.bc (S' := sX4_worthAmong) (by assumption) (mX4_worthAmong ..) (fun p hp => by simp only [sX4_worthAmong, sX0_fillAgainstOthers, List.mem_cons, List.not_mem_nil, or_false] at hp ⊢ <;> omega) (fun _ _ _ => ?_)
      | refine zPr.bnr (fun _ => ?_)
      | refine zPr.bnv (fun _ => ?_)
      | exact zPr.tail (S' := sX0_fillAgainstOthers) (by assumption) (ih ..) (fun _ h => h)
      | exact zPr.tail (S' := sX0_fillAgainstOthers) (by assumption) (hr14 ..) (fun _ h => h)
      | exact zPr.tail (S' := sX0_fillAgainstOthers) (by assumption) (mX0_fillAgainstOthers_167 _ _ (by first | assumption | exact ih | (intros; apply ih) | (intros; apply mX0_fillAgainstOthers_14)) (by first | assumption | exact ih | (intros; apply ih) | (intros; apply mX0_fillAgainstOthers_111)) ..) (fun _ h => h)
      | exact zPr.tail (S' := sX0_fillAgainstOthers) (by assumption) (mX0_fillAgainstOthers_111 _ (by first | assumption | exact ih | (intros; apply ih) | (intros; apply mX0_fillAgainstOthers_14)) ..) (fun _ h => h)
theorem mX0_fillAgainstOthers_14 : ∀ (fuel : Nat) (x1 : Int32) (x2 : Int32) (x3 : Int32) (x4 : Int32) (σ : zS), zPr (sX0_fillAgainstOthers σ.2.2) σ id (fX0_fillAgainstOthers_14 fuel x1 x2 x3 x4 σ) := by
  intro fuel
  induction fuel with
  | zero => intro x1 x2 x3 x4 σ; exact zPr.none
  | succ f ih =>
    intro x1 x2 x3 x4 σ
    rw [fX0_fillAgainstOthers_14]
    have hc := zSm.rfl (sX0_fillAgainstOthers σ.2.2) σ
    repeat' first
      | exact zPr.none
      | exact zPr.some (by assumption)
      | refine zPr.ite ?_ ?_
      | refine zPr.wI (by assumption) (by simp only [sX0_fillAgainstOthers, List.mem_cons, List.not_mem_nil, or_false]; omega) (fun _ _ => ?_)
      | refine zPr.wL (by assumption) (by simp only [sX0_fillAgainstOthers, List.mem_cons, List.not_mem_nil, or_false]; omega) (fun _ _ => ?_)
      | refine zPr.bI (by assumption) (by simp only [sX0_fillAgainstOthers, List.mem_cons, List.not_mem_nil, or_false]; omega) (fun _ _ => ?_)
      | refine zPr.bL (by assumption) (by simp only [sX0_fillAgainstOthers, List.mem_cons, List.not_mem_nil, or_false]; omega) (fun _ _ => ?_)
      | refine zPr.wC (by assumption) (by simp only [sX0_fillAgainstOthers, List.mem_cons, List.not_mem_nil, or_false]; omega) (fun _ _ => ?_)
      | refine zPr.aI (fun _ => ?_)
      | refine zPr.aL (fun _ => ?_)
      | refine zPr.gd ?_
      | refine zPr.bw (S' := sJ7_fill_bad5a _) (by assumption) (mJ7_fill_bad5a ..) (fun p hp => by simp only [sJ7_fill_bad5a, sX0_fillAgainstOthers, List.mem_cons, List.not_mem_nil, or_false] at hp ⊢ <;> omega) (fun _ _ => ?_)
      | refine zPr.bw (S' := sX0_addToSeconds) (by assumption) (mX0_addToSeconds ..) (fun p hp => by simp only [sX0_addToSeconds, sX0_fillAgainstOthers, List.mem_cons, List.not_mem_nil, or_false] at hp ⊢ <;> omega) (fun _ _ => ?_)
      | refine zPr.bc (S' := sX4_worthAmong) (by assumption) (mX4_worthAmong ..) (fun p hp => by simp only [sX4_worthAmong, sX0_fillAgainstOthers, List.mem_cons, List.not_mem_nil, or_false] at hp ⊢ <;> omega) (fun _ _ _ => ?_)
      | refine zPr.bnr (fun _ => ?_)
      | refine zPr.bnv (fun _ => ?_)
      | exact zPr.tail (S' := sX0_fillAgainstOthers) (by assumption) (ih ..) (fun _ h => h)
      | exact zPr.tail (S' := sX0_fillAgainstOthers) (by assumption) (mX0_fillAgainstOthers_167 _ _ (by first | assumption | exact ih | (intros; apply ih) | (intros; apply mX0_fillAgainstOthers_14)) (by first | assumption | exact ih | (intros; apply ih) | (intros; apply mX0_fillAgainstOthers_111)) ..) (fun _ h => h)
      | exact zPr.tail (S' := sX0_fillAgainstOthers) (by assumption) (mX0_fillAgainstOthers_111 _ (by first | assumption | exact ih | (intros; apply ih) | (intros; apply mX0_fillAgainstOthers_14)) ..) (fun _ h => h)
      | exact zPr.tail (S' := sX0_fillAgainstOthers) (by assumption) (mX0_fillAgainstOthers_65 _ (by first | assumption | exact ih | (intros; apply ih) | (intros; apply mX0_fillAgainstOthers_14)) ..) (fun _ h => h)
theorem mX0_fillAgainstOthers (p1 : Int32) (p2 : Int32) (p3 : Int32) (σ : zS) : zPr (sX0_fillAgainstOthers σ.2.2) σ id (fX0_fillAgainstOthers p1 p2 p3 σ) := by
  unfold fX0_fillAgainstOthers
  have hc := zSm.rfl (sX0_fillAgainstOthers σ.2.2) σ
  repeat' first
    | exact zPr.none
    | exact zPr.some (by assumption)
    | refine zPr.ite ?_ ?_
    | refine zPr.wI (by assumption) (by simp only [sX0_fillAgainstOthers, List.mem_cons, List.not_mem_nil, or_false]; omega) (fun _ _ => ?_)
    | refine zPr.wL (by assumption) (by simp only [sX0_fillAgainstOthers, List.mem_cons, List.not_mem_nil, or_false]; omega) (fun _ _ => ?_)
    | refine zPr.bI (by assumption) (by simp only [sX0_fillAgainstOthers, List.mem_cons, List.not_mem_nil, or_false]; omega) (fun _ _ => ?_)
    | refine zPr.bL (by assumption) (by simp only [sX0_fillAgainstOthers, List.mem_cons, List.not_mem_nil, or_false]; omega) (fun _ _ => ?_)
    | refine zPr.wC (by assumption) (by simp only [sX0_fillAgainstOthers, List.mem_cons, List.not_mem_nil, or_false]; omega) (fun _ _ => ?_)
    | refine zPr.aI (fun _ => ?_)
    | refine zPr.aL (fun _ => ?_)
    | refine zPr.gd ?_
    | refine zPr.bw (S' := sJ7_fill_bad5a _) (by assumption) (mJ7_fill_bad5a ..) (fun p hp => by simp only [sJ7_fill_bad5a, sX0_fillAgainstOthers, List.mem_cons, List.not_mem_nil, or_false] at hp ⊢ <;> omega) (fun _ _ => ?_)
    | refine zPr.bw (S' := sX0_addToSeconds) (by assumption) (mX0_addToSeconds ..) (fun p hp => by simp only [sX0_addToSeconds, sX0_fillAgainstOthers, List.mem_cons, List.not_mem_nil, or_false] at hp ⊢ <;> omega) (fun _ _ => ?_)
    | refine zPr.bc (S' := sX4_worthAmong) (by assumption) (mX4_worthAmong ..) (fun p hp => by simp only [sX4_worthAmong, sX0_fillAgainstOthers, List.mem_cons, List.not_mem_nil, or_false] at hp ⊢ <;> omega) (fun _ _ _ => ?_)
    | refine zPr.bnr (fun _ => ?_)
    | refine zPr.bnv (fun _ => ?_)
    | exact zPr.tail (S' := sX0_fillAgainstOthers) (by assumption) (mX0_fillAgainstOthers_167 _ _ (by first | assumption | exact ih | (intros; apply ih) | (intros; apply mX0_fillAgainstOthers_14)) (by first | assumption | exact ih | (intros; apply ih) | (intros; apply mX0_fillAgainstOthers_111)) ..) (fun _ h => h)
    | exact zPr.tail (S' := sX0_fillAgainstOthers) (by assumption) (mX0_fillAgainstOthers_111 _ (by first | assumption | exact ih | (intros; apply ih) | (intros; apply mX0_fillAgainstOthers_14)) ..) (fun _ h => h)
    | exact zPr.tail (S' := sX0_fillAgainstOthers) (by assumption) (mX0_fillAgainstOthers_65 _ (by first | assumption | exact ih | (intros; apply ih) | (intros; apply mX0_fillAgainstOthers_14)) ..) (fun _ h => h)
    | exact zPr.tail (S' := sX0_fillAgainstOthers) (by assumption) (mX0_fillAgainstOthers_14 ..) (fun _ h => h)
def sX0_isAnyMoved (t : Bool × Bool × Bool) : List Nat := [rp t.2.1 + 11, rp t.2.1 + 13, 25, 26, 28, 31]
theorem mX0_isAnyMoved_80 (r4 : Int32 → Int32 → Int32 → zS → Option (Int32 × zS)) (hr4 : ∀ (x0 : Int32) (x1 : Int32) (x2 : Int32) (σ : zS), zPr (sX0_isAnyMoved σ.2.2) σ Prod.snd (r4 x0 x1 x2 σ)) (x1 : Int32) (x2 : Int32) (x3 : Int32) (σ : zS) : zPr (sX0_isAnyMoved σ.2.2) σ Prod.snd (fX0_isAnyMoved_80 r4 x1 x2 x3 σ) := by
  unfold fX0_isAnyMoved_80
  have hc := zSm.rfl (sX0_isAnyMoved σ.2.2) σ
  repeat' first
    | exact zPr.none
    | exact zPr.some (by assumption)
    | refine zPr.ite ?_ ?_
    | refine zPr.wI (by assumption) (by simp only [sX0_isAnyMoved, List.mem_cons, List.not_mem_nil, or_false]; omega) (fun _ _ => ?_)
    | refine zPr.wL (by assumption) (by simp only [sX0_isAnyMoved, List.mem_cons, List.not_mem_nil, or_false]; omega) (fun _ _ => ?_)
    | refine zPr.bI (by assumption) (by simp only [sX0_isAnyMoved, List.mem_cons, List.not_mem_nil, or_false]; omega) (fun _ _ => ?_)
    | refine zPr.bL (by assumption) (by simp only [sX0_isAnyMoved, List.mem_cons, List.not_mem_nil, or_false]; omega) (fun _ _ => ?_)
    | refine zPr.wC (by assumption) (by simp only [sX0_isAnyMoved, List.mem_cons, List.not_mem_nil, or_false]; omega) (fun _ _ => ?_)
    | refine zPr.aI (fun _ => ?_)
    | refine zPr.aL (fun _ => ?_)
    | refine zPr.gd ?_
    | refine zPr.bw (S' := sX0_fillAgainstOthers) (by assumption) (mX0_fillAgainstOthers ..) (fun p hp => by simp only [sX0_fillAgainstOthers, sX0_isAnyMoved, List.mem_cons, List.not_mem_nil, or_false] at hp ⊢ <;> omega) (fun _ _ => ?_)
    | refine zPr.bnr (fun _ => ?_)
    | refine zPr.bnv (fun _ => ?_)
    | exact zPr.tail (S' := sX0_isAnyMoved) (by assumption) (hr4 ..) (fun _ h => h)
theorem mX0_isAnyMoved_4 : ∀ (fuel : Nat) (x1 : Int32) (x2 : Int32) (x3 : Int32) (σ : zS), zPr (sX0_isAnyMoved σ.2.2) σ Prod.snd (fX0_isAnyMoved_4 fuel x1 x2 x3 σ) := by
  intro fuel
  induction fuel with
  | zero => intro x1 x2 x3 σ; exact zPr.none
  | succ f ih =>
    intro x1 x2 x3 σ
    rw [fX0_isAnyMoved_4]
    have hc := zSm.rfl (sX0_isAnyMoved σ.2.2) σ
    repeat' first
      | exact zPr.none
      | exact zPr.some (by assumption)
      | refine zPr.ite ?_ ?_
      | refine zPr.wI (by assumption) (by simp only [sX0_isAnyMoved, List.mem_cons, List.not_mem_nil, or_false]; omega) (fun _ _ => ?_)
      | refine zPr.wL (by assumption) (by simp only [sX0_isAnyMoved, List.mem_cons, List.not_mem_nil, or_false]; omega) (fun _ _ => ?_)
      | refine zPr.bI (by assumption) (by simp only [sX0_isAnyMoved, List.mem_cons, List.not_mem_nil, or_false]; omega) (fun _ _ => ?_)
      | refine zPr.bL (by assumption) (by simp only [sX0_isAnyMoved, List.mem_cons, List.not_mem_nil, or_false]; omega) (fun _ _ => ?_)
      | refine zPr.wC (by assumption) (by simp only [sX0_isAnyMoved, List.mem_cons, List.not_mem_nil, or_false]; omega) (fun _ _ => ?_)
      | refine zPr.aI (fun _ => ?_)
      | refine zPr.aL (fun _ => ?_)
      | refine zPr.gd ?_
      | refine zPr.bw (S' := sX0_fillAgainstOthers) (by assumption) (mX0_fillAgainstOthers ..) (fun p hp => by simp only [sX0_fillAgainstOthers, sX0_isAnyMoved, List.mem_cons, List.not_mem_nil, or_false] at hp ⊢ <;> omega) (fun _ _ => ?_)
      | refine zPr.bnr (fun _ => ?_)
      | refine zPr.bnv (fun _ => ?_)
      | exact zPr.tail (S' := sX0_isAnyMoved) (by assumption) (ih ..) (fun _ h => h)
      | exact zPr.tail (S' := sX0_isAnyMoved) (by assumption) (mX0_isAnyMoved_80 _ (by first | assumption | exact ih | (intros; apply ih) | (intros; apply mX0_isAnyMoved_4)) ..) (fun _ h => h)
theorem mX0_isAnyMoved (p1 : Int32) (σ : zS) : zPr (sX0_isAnyMoved σ.2.2) σ Prod.snd (fX0_isAnyMoved p1 σ) := by
  unfold fX0_isAnyMoved
  have hc := zSm.rfl (sX0_isAnyMoved σ.2.2) σ
  repeat' first
    | exact zPr.none
    | exact zPr.some (by assumption)
    | refine zPr.ite ?_ ?_
    | refine zPr.wI (by assumption) (by simp only [sX0_isAnyMoved, List.mem_cons, List.not_mem_nil, or_false]; omega) (fun _ _ => ?_)
    | refine zPr.wL (by assumption) (by simp only [sX0_isAnyMoved, List.mem_cons, List.not_mem_nil, or_false]; omega) (fun _ _ => ?_)
    | refine zPr.bI (by assumption) (by simp only [sX0_isAnyMoved, List.mem_cons, List.not_mem_nil, or_false]; omega) (fun _ _ => ?_)
    | refine zPr.bL (by assumption) (by simp only [sX0_isAnyMoved, List.mem_cons, List.not_mem_nil, or_false]; omega) (fun _ _ => ?_)
    | refine zPr.wC (by assumption) (by simp only [sX0_isAnyMoved, List.mem_cons, List.not_mem_nil, or_false]; omega) (fun _ _ => ?_)
    | refine zPr.aI (fun _ => ?_)
    | refine zPr.aL (fun _ => ?_)
    | refine zPr.gd ?_
    | refine zPr.bw (S' := sX0_fillAgainstOthers) (by assumption) (mX0_fillAgainstOthers ..) (fun p hp => by simp only [sX0_fillAgainstOthers, sX0_isAnyMoved, List.mem_cons, List.not_mem_nil, or_false] at hp ⊢ <;> omega) (fun _ _ => ?_)
    | refine zPr.bnr (fun _ => ?_)
    | refine zPr.bnv (fun _ => ?_)
    | exact zPr.tail (S' := sX0_isAnyMoved) (by assumption) (mX0_isAnyMoved_80 _ (by first | assumption | exact ih | (intros; apply ih) | (intros; apply mX0_isAnyMoved_4)) ..) (fun _ h => h)
    | exact zPr.tail (S' := sX0_isAnyMoved) (by assumption) (mX0_isAnyMoved_4 ..) (fun _ h => h)
def sX0_settle (t : Bool × Bool × Bool) : List Nat := [rp t.2.1 + 11, rp t.2.1 + 13, 25, 26, 27, 28, 31]
theorem mX0_settle_61 : ∀ (fuel : Nat) (x1 : Int32) (x2 : Int32) (σ : zS), zPr (sX0_settle σ.2.2) σ id (fX0_settle_61 fuel x1 x2 σ) := by
  intro fuel
  induction fuel with
  | zero => intro x1 x2 σ; exact zPr.none
  | succ f ih =>
    intro x1 x2 σ
    rw [fX0_settle_61]
    have hc := zSm.rfl (sX0_settle σ.2.2) σ
    repeat' first
      | exact zPr.none
      | exact zPr.some (by assumption)
      | refine zPr.ite ?_ ?_
      | refine zPr.wI (by assumption) (by simp only [sX0_settle, List.mem_cons, List.not_mem_nil, or_false]; omega) (fun _ _ => ?_)
      | refine zPr.wL (by assumption) (by simp only [sX0_settle, List.mem_cons, List.not_mem_nil, or_false]; omega) (fun _ _ => ?_)
      | refine zPr.bI (by assumption) (by simp only [sX0_settle, List.mem_cons, List.not_mem_nil, or_false]; omega) (fun _ _ => ?_)
      | refine zPr.bL (by assumption) (by simp only [sX0_settle, List.mem_cons, List.not_mem_nil, or_false]; omega) (fun _ _ => ?_)
      | refine zPr.wC (by assumption) (by simp only [sX0_settle, List.mem_cons, List.not_mem_nil, or_false]; omega) (fun _ _ => ?_)
      | refine zPr.aI (fun _ => ?_)
      | refine zPr.aL (fun _ => ?_)
      | refine zPr.gd ?_
      | refine zPr.bc (S' := sX0_isAnyMoved) (by assumption) (mX0_isAnyMoved ..) (fun p hp => by simp only [sX0_isAnyMoved, sX0_settle, List.mem_cons, List.not_mem_nil, or_false] at hp ⊢ <;> omega) (fun _ _ _ => ?_)
      | refine zPr.bnr (fun _ => ?_)
      | refine zPr.bnv (fun _ => ?_)
      | exact zPr.tail (S' := sX0_settle) (by assumption) (ih ..) (fun _ h => h)
theorem mX0_settle_16 : ∀ (fuel : Nat) (x1 : Int32) (x2 : Int32) (σ : zS), zPr (sX0_settle σ.2.2) σ id (fX0_settle_16 fuel x1 x2 σ) := by
  intro fuel
  induction fuel with
  | zero => intro x1 x2 σ; exact zPr.none
  | succ f ih =>
    intro x1 x2 σ
    rw [fX0_settle_16]
    have hc := zSm.rfl (sX0_settle σ.2.2) σ
    repeat' first
      | exact zPr.none
      | exact zPr.some (by assumption)
      | refine zPr.ite ?_ ?_
      | refine zPr.wI (by assumption) (by simp only [sX0_settle, List.mem_cons, List.not_mem_nil, or_false]; omega) (fun _ _ => ?_)
      | refine zPr.wL (by assumption) (by simp only [sX0_settle, List.mem_cons, List.not_mem_nil, or_false]; omega) (fun _ _ => ?_)
      | refine zPr.bI (by assumption) (by simp only [sX0_settle, List.mem_cons, List.not_mem_nil, or_false]; omega) (fun _ _ => ?_)
      | refine zPr.bL (by assumption) (by simp only [sX0_settle, List.mem_cons, List.not_mem_nil, or_false]; omega) (fun _ _ => ?_)
      | refine zPr.wC (by assumption) (by simp only [sX0_settle, List.mem_cons, List.not_mem_nil, or_false]; omega) (fun _ _ => ?_)
      | refine zPr.aI (fun _ => ?_)
      | refine zPr.aL (fun _ => ?_)
      | refine zPr.gd ?_
      | refine zPr.bc (S' := sX0_isAnyMoved) (by assumption) (mX0_isAnyMoved ..) (fun p hp => by simp only [sX0_isAnyMoved, sX0_settle, List.mem_cons, List.not_mem_nil, or_false] at hp ⊢ <;> omega) (fun _ _ _ => ?_)
      | refine zPr.bnr (fun _ => ?_)
      | refine zPr.bnv (fun _ => ?_)
      | exact zPr.tail (S' := sX0_settle) (by assumption) (ih ..) (fun _ h => h)
      | exact zPr.tail (S' := sX0_settle) (by assumption) (mX0_settle_61 ..) (fun _ h => h)
theorem mX0_settle (p1 : Int32) (σ : zS) : zPr (sX0_settle σ.2.2) σ id (fX0_settle p1 σ) := by
  unfold fX0_settle
  have hc := zSm.rfl (sX0_settle σ.2.2) σ
  repeat' first
    | exact zPr.none
    | exact zPr.some (by assumption)
    | refine zPr.ite ?_ ?_
    | refine zPr.wI (by assumption) (by simp only [sX0_settle, List.mem_cons, List.not_mem_nil, or_false]; omega) (fun _ _ => ?_)
    | refine zPr.wL (by assumption) (by simp only [sX0_settle, List.mem_cons, List.not_mem_nil, or_false]; omega) (fun _ _ => ?_)
    | refine zPr.bI (by assumption) (by simp only [sX0_settle, List.mem_cons, List.not_mem_nil, or_false]; omega) (fun _ _ => ?_)
    | refine zPr.bL (by assumption) (by simp only [sX0_settle, List.mem_cons, List.not_mem_nil, or_false]; omega) (fun _ _ => ?_)
    | refine zPr.wC (by assumption) (by simp only [sX0_settle, List.mem_cons, List.not_mem_nil, or_false]; omega) (fun _ _ => ?_)
    | refine zPr.aI (fun _ => ?_)
    | refine zPr.aL (fun _ => ?_)
    | refine zPr.gd ?_
    | refine zPr.bc (S' := sX0_isAnyMoved) (by assumption) (mX0_isAnyMoved ..) (fun p hp => by simp only [sX0_isAnyMoved, sX0_settle, List.mem_cons, List.not_mem_nil, or_false] at hp ⊢ <;> omega) (fun _ _ _ => ?_)
    | refine zPr.bnr (fun _ => ?_)
    | refine zPr.bnv (fun _ => ?_)
    | exact zPr.tail (S' := sX0_settle) (by assumption) (mX0_settle_61 ..) (fun _ h => h)
    | exact zPr.tail (S' := sX0_settle) (by assumption) (mX0_settle_16 ..) (fun _ h => h)
def sX10_rest (t : Bool × Bool × Bool) : List Nat := [rp t.2.1 + 11, rp t.2.1 + 13, 25, 26, 27, 28, 31]
theorem mX10_rest (p1 : Int32) (p2 : Int32) (σ : zS) : zPr (sX10_rest σ.2.2) σ Prod.snd (fX10_rest p1 p2 σ) := by
  unfold fX10_rest
  have hc := zSm.rfl (sX10_rest σ.2.2) σ
  repeat' first
    | exact zPr.none
    | exact zPr.some (by assumption)
    | refine zPr.ite ?_ ?_
    | refine zPr.wI (by assumption) (by simp only [sX10_rest, List.mem_cons, List.not_mem_nil, or_false]; omega) (fun _ _ => ?_)
    | refine zPr.wL (by assumption) (by simp only [sX10_rest, List.mem_cons, List.not_mem_nil, or_false]; omega) (fun _ _ => ?_)
    | refine zPr.bI (by assumption) (by simp only [sX10_rest, List.mem_cons, List.not_mem_nil, or_false]; omega) (fun _ _ => ?_)
    | refine zPr.bL (by assumption) (by simp only [sX10_rest, List.mem_cons, List.not_mem_nil, or_false]; omega) (fun _ _ => ?_)
    | refine zPr.wC (by assumption) (by simp only [sX10_rest, List.mem_cons, List.not_mem_nil, or_false]; omega) (fun _ _ => ?_)
    | refine zPr.aI (fun _ => ?_)
    | refine zPr.aL (fun _ => ?_)
    | refine zPr.gd ?_
    | refine zPr.bw (S' := sX0_settle) (by assumption) (mX0_settle ..) (fun p hp => by simp only [sX0_settle, sX10_rest, List.mem_cons, List.not_mem_nil, or_false] at hp ⊢ <;> omega) (fun _ _ => ?_)
    | refine zPr.bnr (fun _ => ?_)
    | refine zPr.bnv (fun _ => ?_)
def sX0_hiddenTotal (t : Bool × Bool × Bool) : List Nat := [rp t.2.1 + 11, rp t.2.1 + 13, 26]
theorem mX0_hiddenTotal_27 : ∀ (fuel : Nat) (x2 : Int32) (c3 : Bool) (x4 : Int32) (x5 : Int64) (x7 : Int32) (σ : zS), zPr (sX0_hiddenTotal σ.2.2) σ Prod.snd (fX0_hiddenTotal_27 fuel x2 c3 x4 x5 x7 σ) := by
  intro fuel
  induction fuel with
  | zero => intro x2 c3 x4 x5 x7 σ; exact zPr.none
  | succ f ih =>
    intro x2 c3 x4 x5 x7 σ
    rw [fX0_hiddenTotal_27]
    have hc := zSm.rfl (sX0_hiddenTotal σ.2.2) σ
    repeat' first
      | exact zPr.none
      | exact zPr.some (by assumption)
      | refine zPr.ite ?_ ?_
      | refine zPr.wI (by assumption) (by simp only [sX0_hiddenTotal, List.mem_cons, List.not_mem_nil, or_false]; omega) (fun _ _ => ?_)
      | refine zPr.wL (by assumption) (by simp only [sX0_hiddenTotal, List.mem_cons, List.not_mem_nil, or_false]; omega) (fun _ _ => ?_)
      | refine zPr.bI (by assumption) (by simp only [sX0_hiddenTotal, List.mem_cons, List.not_mem_nil, or_false]; omega) (fun _ _ => ?_)
      | refine zPr.bL (by assumption) (by simp only [sX0_hiddenTotal, List.mem_cons, List.not_mem_nil, or_false]; omega) (fun _ _ => ?_)
      | refine zPr.wC (by assumption) (by simp only [sX0_hiddenTotal, List.mem_cons, List.not_mem_nil, or_false]; omega) (fun _ _ => ?_)
      | refine zPr.aI (fun _ => ?_)
      | refine zPr.aL (fun _ => ?_)
      | refine zPr.gd ?_
      | refine zPr.bc (S' := sX4_worthAlone) (by assumption) (mX4_worthAlone ..) (fun p hp => by simp only [sX4_worthAlone, sX0_hiddenTotal, List.mem_cons, List.not_mem_nil, or_false] at hp ⊢ <;> omega) (fun _ _ _ => ?_)
      | refine zPr.bnr (fun _ => ?_)
      | refine zPr.bnv (fun _ => ?_)
      | exact zPr.tail (S' := sX0_hiddenTotal) (by assumption) (ih ..) (fun _ h => h)
theorem mX0_hiddenTotal (p1 : Int32) (p2 : Int32) (σ : zS) : zPr (sX0_hiddenTotal σ.2.2) σ Prod.snd (fX0_hiddenTotal p1 p2 σ) := by
  unfold fX0_hiddenTotal
  have hc := zSm.rfl (sX0_hiddenTotal σ.2.2) σ
  repeat' first
    | exact zPr.none
    | exact zPr.some (by assumption)
    | refine zPr.ite ?_ ?_
    | refine zPr.wI (by assumption) (by simp only [sX0_hiddenTotal, List.mem_cons, List.not_mem_nil, or_false]; omega) (fun _ _ => ?_)
    | refine zPr.wL (by assumption) (by simp only [sX0_hiddenTotal, List.mem_cons, List.not_mem_nil, or_false]; omega) (fun _ _ => ?_)
    | refine zPr.bI (by assumption) (by simp only [sX0_hiddenTotal, List.mem_cons, List.not_mem_nil, or_false]; omega) (fun _ _ => ?_)
    | refine zPr.bL (by assumption) (by simp only [sX0_hiddenTotal, List.mem_cons, List.not_mem_nil, or_false]; omega) (fun _ _ => ?_)
    | refine zPr.wC (by assumption) (by simp only [sX0_hiddenTotal, List.mem_cons, List.not_mem_nil, or_false]; omega) (fun _ _ => ?_)
    | refine zPr.aI (fun _ => ?_)
    | refine zPr.aL (fun _ => ?_)
    | refine zPr.gd ?_
    | refine zPr.bc (S' := sX4_worthAlone) (by assumption) (mX4_worthAlone ..) (fun p hp => by simp only [sX4_worthAlone, sX0_hiddenTotal, List.mem_cons, List.not_mem_nil, or_false] at hp ⊢ <;> omega) (fun _ _ _ => ?_)
    | refine zPr.bnr (fun _ => ?_)
    | refine zPr.bnv (fun _ => ?_)
    | exact zPr.tail (S' := sX0_hiddenTotal) (by assumption) (mX0_hiddenTotal_27 ..) (fun _ h => h)
def sX10_hidden (t : Bool × Bool × Bool) : List Nat := [rp t.2.1 + 11, rp t.2.1 + 13, 26, 27, 28, 29, 30]
theorem mX10_hidden (p1 : Int32) (p2 : Int32) (p3 : Int32) (σ : zS) : zPr (sX10_hidden σ.2.2) σ Prod.snd (fX10_hidden p1 p2 p3 σ) := by
  unfold fX10_hidden
  have hc := zSm.rfl (sX10_hidden σ.2.2) σ
  repeat' first
    | exact zPr.none
    | exact zPr.some (by assumption)
    | refine zPr.ite ?_ ?_
    | refine zPr.wI (by assumption) (by simp only [sX10_hidden, List.mem_cons, List.not_mem_nil, or_false]; omega) (fun _ _ => ?_)
    | refine zPr.wL (by assumption) (by simp only [sX10_hidden, List.mem_cons, List.not_mem_nil, or_false]; omega) (fun _ _ => ?_)
    | refine zPr.bI (by assumption) (by simp only [sX10_hidden, List.mem_cons, List.not_mem_nil, or_false]; omega) (fun _ _ => ?_)
    | refine zPr.bL (by assumption) (by simp only [sX10_hidden, List.mem_cons, List.not_mem_nil, or_false]; omega) (fun _ _ => ?_)
    | refine zPr.wC (by assumption) (by simp only [sX10_hidden, List.mem_cons, List.not_mem_nil, or_false]; omega) (fun _ _ => ?_)
    | refine zPr.aI (fun _ => ?_)
    | refine zPr.aL (fun _ => ?_)
    | refine zPr.gd ?_
    | refine zPr.bc (S' := sX0_hiddenTotal) (by assumption) (mX0_hiddenTotal ..) (fun p hp => by simp only [sX0_hiddenTotal, sX10_hidden, List.mem_cons, List.not_mem_nil, or_false] at hp ⊢ <;> omega) (fun _ _ _ => ?_)
    | refine zPr.bw (S' := sX0_plan) (by assumption) (mX0_plan ..) (fun p hp => by simp only [sX0_plan, sX10_hidden, List.mem_cons, List.not_mem_nil, or_false] at hp ⊢ <;> omega) (fun _ _ => ?_)
    | refine zPr.bnr (fun _ => ?_)
    | refine zPr.bnv (fun _ => ?_)
def sX0_totalAmong (t : Bool × Bool × Bool) : List Nat := [rp t.2.1 + 11, rp t.2.1 + 13, 25, 26]
theorem mX0_totalAmong_72 (r6 : Int32 → Int32 → Int32 → Int64 → Int32 → zS → Option (Int64 × zS)) (hr6 : ∀ (x0 : Int32) (x1 : Int32) (x2 : Int32) (x3 : Int64) (x4 : Int32) (σ : zS), zPr (sX0_totalAmong σ.2.2) σ Prod.snd (r6 x0 x1 x2 x3 x4 σ)) (x1 : Int32) (x2 : Int32) (x3 : Int32) (x4 : Int64) (x6 : Int32) (x7 : Int32) (σ : zS) : zPr (sX0_totalAmong σ.2.2) σ Prod.snd (fX0_totalAmong_72 r6 x1 x2 x3 x4 x6 x7 σ) := by
  unfold fX0_totalAmong_72
  have hc := zSm.rfl (sX0_totalAmong σ.2.2) σ
  repeat' first
    | exact zPr.none
    | exact zPr.some (by assumption)
    | refine zPr.ite ?_ ?_
    | refine zPr.wI (by assumption) (by simp only [sX0_totalAmong, List.mem_cons, List.not_mem_nil, or_false]; omega) (fun _ _ => ?_)
    | refine zPr.wL (by assumption) (by simp only [sX0_totalAmong, List.mem_cons, List.not_mem_nil, or_false]; omega) (fun _ _ => ?_)
    | refine zPr.bI (by assumption) (by simp only [sX0_totalAmong, List.mem_cons, List.not_mem_nil, or_false]; omega) (fun _ _ => ?_)
    | refine zPr.bL (by assumption) (by simp only [sX0_totalAmong, List.mem_cons, List.not_mem_nil, or_false]; omega) (fun _ _ => ?_)
    | refine zPr.wC (by assumption) (by simp only [sX0_totalAmong, List.mem_cons, List.not_mem_nil, or_false]; omega) (fun _ _ => ?_)
    | refine zPr.aI (fun _ => ?_)
    | refine zPr.aL (fun _ => ?_)
    | refine zPr.gd ?_
    | refine zPr.bw (S' := sX4_allHold) (by assumption) (mX4_allHold ..) (fun p hp => by simp only [sX4_allHold, sX0_totalAmong, List.mem_cons, List.not_mem_nil, or_false] at hp ⊢ <;> omega) (fun _ _ => ?_)
    | refine zPr.bc (S' := sX4_worthAmong) (by assumption) (mX4_worthAmong ..) (fun p hp => by simp only [sX4_worthAmong, sX0_totalAmong, List.mem_cons, List.not_mem_nil, or_false] at hp ⊢ <;> omega) (fun _ _ _ => ?_)
    | refine zPr.bnr (fun _ => ?_)
    | refine zPr.bnv (fun _ => ?_)
    | exact zPr.tail (S' := sX0_totalAmong) (by assumption) (hr6 ..) (fun _ h => h)
theorem mX0_totalAmong_6 : ∀ (fuel : Nat) (x1 : Int32) (x2 : Int32) (x3 : Int32) (x4 : Int64) (x6 : Int32) (σ : zS), zPr (sX0_totalAmong σ.2.2) σ Prod.snd (fX0_totalAmong_6 fuel x1 x2 x3 x4 x6 σ) := by
  intro fuel
  induction fuel with
  | zero => intro x1 x2 x3 x4 x6 σ; exact zPr.none
  | succ f ih =>
    intro x1 x2 x3 x4 x6 σ
    rw [fX0_totalAmong_6]
    have hc := zSm.rfl (sX0_totalAmong σ.2.2) σ
    repeat' first
      | exact zPr.none
      | exact zPr.some (by assumption)
      | refine zPr.ite ?_ ?_
      | refine zPr.wI (by assumption) (by simp only [sX0_totalAmong, List.mem_cons, List.not_mem_nil, or_false]; omega) (fun _ _ => ?_)
      | refine zPr.wL (by assumption) (by simp only [sX0_totalAmong, List.mem_cons, List.not_mem_nil, or_false]; omega) (fun _ _ => ?_)
      | refine zPr.bI (by assumption) (by simp only [sX0_totalAmong, List.mem_cons, List.not_mem_nil, or_false]; omega) (fun _ _ => ?_)
      | refine zPr.bL (by assumption) (by simp only [sX0_totalAmong, List.mem_cons, List.not_mem_nil, or_false]; omega) (fun _ _ => ?_)
      | refine zPr.wC (by assumption) (by simp only [sX0_totalAmong, List.mem_cons, List.not_mem_nil, or_false]; omega) (fun _ _ => ?_)
      | refine zPr.aI (fun _ => ?_)
      | refine zPr.aL (fun _ => ?_)
      | refine zPr.gd ?_
      | refine zPr.bw (S' := sX4_allHold) (by assumption) (mX4_allHold ..) (fun p hp => by simp only [sX4_allHold, sX0_totalAmong, List.mem_cons, List.not_mem_nil, or_false] at hp ⊢ <;> omega) (fun _ _ => ?_)
      | refine zPr.bc (S' := sX4_worthAmong) (by assumption) (mX4_worthAmong ..) (fun p hp => by simp only [sX4_worthAmong, sX0_totalAmong, List.mem_cons, List.not_mem_nil, or_false] at hp ⊢ <;> omega) (fun _ _ _ => ?_)
      | refine zPr.bnr (fun _ => ?_)
      | refine zPr.bnv (fun _ => ?_)
      | exact zPr.tail (S' := sX0_totalAmong) (by assumption) (ih ..) (fun _ h => h)
      | exact zPr.tail (S' := sX0_totalAmong) (by assumption) (mX0_totalAmong_72 _ (by first | assumption | exact ih | (intros; apply ih) | (intros; apply mX0_totalAmong_6)) ..) (fun _ h => h)
theorem mX0_totalAmong (p1 : Int32) (p2 : Int32) (p3 : Int32) (σ : zS) : zPr (sX0_totalAmong σ.2.2) σ Prod.snd (fX0_totalAmong p1 p2 p3 σ) := by
  unfold fX0_totalAmong
  have hc := zSm.rfl (sX0_totalAmong σ.2.2) σ
  repeat' first
    | exact zPr.none
    | exact zPr.some (by assumption)
    | refine zPr.ite ?_ ?_
    | refine zPr.wI (by assumption) (by simp only [sX0_totalAmong, List.mem_cons, List.not_mem_nil, or_false]; omega) (fun _ _ => ?_)
    | refine zPr.wL (by assumption) (by simp only [sX0_totalAmong, List.mem_cons, List.not_mem_nil, or_false]; omega) (fun _ _ => ?_)
    | refine zPr.bI (by assumption) (by simp only [sX0_totalAmong, List.mem_cons, List.not_mem_nil, or_false]; omega) (fun _ _ => ?_)
    | refine zPr.bL (by assumption) (by simp only [sX0_totalAmong, List.mem_cons, List.not_mem_nil, or_false]; omega) (fun _ _ => ?_)
    | refine zPr.wC (by assumption) (by simp only [sX0_totalAmong, List.mem_cons, List.not_mem_nil, or_false]; omega) (fun _ _ => ?_)
    | refine zPr.aI (fun _ => ?_)
    | refine zPr.aL (fun _ => ?_)
    | refine zPr.gd ?_
    | refine zPr.bw (S' := sX4_allHold) (by assumption) (mX4_allHold ..) (fun p hp => by simp only [sX4_allHold, sX0_totalAmong, List.mem_cons, List.not_mem_nil, or_false] at hp ⊢ <;> omega) (fun _ _ => ?_)
    | refine zPr.bc (S' := sX4_worthAmong) (by assumption) (mX4_worthAmong ..) (fun p hp => by simp only [sX4_worthAmong, sX0_totalAmong, List.mem_cons, List.not_mem_nil, or_false] at hp ⊢ <;> omega) (fun _ _ _ => ?_)
    | refine zPr.bnr (fun _ => ?_)
    | refine zPr.bnv (fun _ => ?_)
    | exact zPr.tail (S' := sX0_totalAmong) (by assumption) (mX0_totalAmong_72 _ (by first | assumption | exact ih | (intros; apply ih) | (intros; apply mX0_totalAmong_6)) ..) (fun _ h => h)
    | exact zPr.tail (S' := sX0_totalAmong) (by assumption) (mX0_totalAmong_6 ..) (fun _ h => h)
def sX0_bestToLaugh (t : Bool × Bool × Bool) : List Nat := [rp t.2.1 + 11, rp t.2.1 + 13, 25, 26]
theorem mX0_bestToLaugh_60 (r14 : Int32 → Int32 → Int32 → Int64 → Int32 → zS → Option (Int32 × zS)) (hr14 : ∀ (x0 : Int32) (x1 : Int32) (x2 : Int32) (x3 : Int64) (x4 : Int32) (σ : zS), zPr (sX0_bestToLaugh σ.2.2) σ Prod.snd (r14 x0 x1 x2 x3 x4 σ)) (x1 : Int32) (x2 : Int32) (x3 : Int32) (x4 : Int64) (x6 : Int32) (σ : zS) : zPr (sX0_bestToLaugh σ.2.2) σ Prod.snd (fX0_bestToLaugh_60 r14 x1 x2 x3 x4 x6 σ) := by
  unfold fX0_bestToLaugh_60
  have hc := zSm.rfl (sX0_bestToLaugh σ.2.2) σ
  repeat' first
    | exact zPr.none
    | exact zPr.some (by assumption)
    | refine zPr.ite ?_ ?_
    | refine zPr.wI (by assumption) (by simp only [sX0_bestToLaugh, List.mem_cons, List.not_mem_nil, or_false]; omega) (fun _ _ => ?_)
    | refine zPr.wL (by assumption) (by simp only [sX0_bestToLaugh, List.mem_cons, List.not_mem_nil, or_false]; omega) (fun _ _ => ?_)
    | refine zPr.bI (by assumption) (by simp only [sX0_bestToLaugh, List.mem_cons, List.not_mem_nil, or_false]; omega) (fun _ _ => ?_)
    | refine zPr.bL (by assumption) (by simp only [sX0_bestToLaugh, List.mem_cons, List.not_mem_nil, or_false]; omega) (fun _ _ => ?_)
    | refine zPr.wC (by assumption) (by simp only [sX0_bestToLaugh, List.mem_cons, List.not_mem_nil, or_false]; omega) (fun _ _ => ?_)
    | refine zPr.aI (fun _ => ?_)
    | refine zPr.aL (fun _ => ?_)
    | refine zPr.gd ?_
    | refine zPr.bc (S' := sX0_totalAmong) (by assumption) (mX0_totalAmong ..) (fun p hp => by simp only [sX0_totalAmong, sX0_bestToLaugh, List.mem_cons, List.not_mem_nil, or_false] at hp ⊢ <;> omega) (fun _ _ _ => ?_)
    | refine zPr.bnr (fun _ => ?_)
    | refine zPr.bnv (fun _ => ?_)
    | exact zPr.tail (S' := sX0_bestToLaugh) (by assumption) (hr14 ..) (fun _ h => h)
theorem mX0_bestToLaugh_14 : ∀ (fuel : Nat) (x1 : Int32) (x2 : Int32) (x3 : Int32) (x4 : Int64) (x6 : Int32) (σ : zS), zPr (sX0_bestToLaugh σ.2.2) σ Prod.snd (fX0_bestToLaugh_14 fuel x1 x2 x3 x4 x6 σ) := by
  intro fuel
  induction fuel with
  | zero => intro x1 x2 x3 x4 x6 σ; exact zPr.none
  | succ f ih =>
    intro x1 x2 x3 x4 x6 σ
    rw [fX0_bestToLaugh_14]
    have hc := zSm.rfl (sX0_bestToLaugh σ.2.2) σ
    repeat' first
      | exact zPr.none
      | exact zPr.some (by assumption)
      | refine zPr.ite ?_ ?_
      | refine zPr.wI (by assumption) (by simp only [sX0_bestToLaugh, List.mem_cons, List.not_mem_nil, or_false]; omega) (fun _ _ => ?_)
      | refine zPr.wL (by assumption) (by simp only [sX0_bestToLaugh, List.mem_cons, List.not_mem_nil, or_false]; omega) (fun _ _ => ?_)
      | refine zPr.bI (by assumption) (by simp only [sX0_bestToLaugh, List.mem_cons, List.not_mem_nil, or_false]; omega) (fun _ _ => ?_)
      | refine zPr.bL (by assumption) (by simp only [sX0_bestToLaugh, List.mem_cons, List.not_mem_nil, or_false]; omega) (fun _ _ => ?_)
      | refine zPr.wC (by assumption) (by simp only [sX0_bestToLaugh, List.mem_cons, List.not_mem_nil, or_false]; omega) (fun _ _ => ?_)
      | refine zPr.aI (fun _ => ?_)
      | refine zPr.aL (fun _ => ?_)
      | refine zPr.gd ?_
      | refine zPr.bc (S' := sX0_totalAmong) (by assumption) (mX0_totalAmong ..) (fun p hp => by simp only [sX0_totalAmong, sX0_bestToLaugh, List.mem_cons, List.not_mem_nil, or_false] at hp ⊢ <;> omega) (fun _ _ _ => ?_)
      | refine zPr.bnr (fun _ => ?_)
      | refine zPr.bnv (fun _ => ?_)
      | exact zPr.tail (S' := sX0_bestToLaugh) (by assumption) (ih ..) (fun _ h => h)
      | exact zPr.tail (S' := sX0_bestToLaugh) (by assumption) (mX0_bestToLaugh_60 _ (by first | assumption | exact ih | (intros; apply ih) | (intros; apply mX0_bestToLaugh_14)) ..) (fun _ h => h)
theorem mX0_bestToLaugh (p1 : Int32) (p2 : Int32) (σ : zS) : zPr (sX0_bestToLaugh σ.2.2) σ Prod.snd (fX0_bestToLaugh p1 p2 σ) := by
  unfold fX0_bestToLaugh
  have hc := zSm.rfl (sX0_bestToLaugh σ.2.2) σ
  repeat' first
    | exact zPr.none
    | exact zPr.some (by assumption)
    | refine zPr.ite ?_ ?_
    | refine zPr.wI (by assumption) (by simp only [sX0_bestToLaugh, List.mem_cons, List.not_mem_nil, or_false]; omega) (fun _ _ => ?_)
    | refine zPr.wL (by assumption) (by simp only [sX0_bestToLaugh, List.mem_cons, List.not_mem_nil, or_false]; omega) (fun _ _ => ?_)
    | refine zPr.bI (by assumption) (by simp only [sX0_bestToLaugh, List.mem_cons, List.not_mem_nil, or_false]; omega) (fun _ _ => ?_)
    | refine zPr.bL (by assumption) (by simp only [sX0_bestToLaugh, List.mem_cons, List.not_mem_nil, or_false]; omega) (fun _ _ => ?_)
    | refine zPr.wC (by assumption) (by simp only [sX0_bestToLaugh, List.mem_cons, List.not_mem_nil, or_false]; omega) (fun _ _ => ?_)
    | refine zPr.aI (fun _ => ?_)
    | refine zPr.aL (fun _ => ?_)
    | refine zPr.gd ?_
    | refine zPr.bc (S' := sX0_totalAmong) (by assumption) (mX0_totalAmong ..) (fun p hp => by simp only [sX0_totalAmong, sX0_bestToLaugh, List.mem_cons, List.not_mem_nil, or_false] at hp ⊢ <;> omega) (fun _ _ _ => ?_)
    | refine zPr.bnr (fun _ => ?_)
    | refine zPr.bnv (fun _ => ?_)
    | exact zPr.tail (S' := sX0_bestToLaugh) (by assumption) (mX0_bestToLaugh_60 _ (by first | assumption | exact ih | (intros; apply ih) | (intros; apply mX0_bestToLaugh_14)) ..) (fun _ h => h)
    | exact zPr.tail (S' := sX0_bestToLaugh) (by assumption) (mX0_bestToLaugh_14 ..) (fun _ h => h)
def sX10_whom (t : Bool × Bool × Bool) : List Nat := [rp t.2.1 + 11, rp t.2.1 + 13, 25, 26]
theorem mX10_whom (p1 : Int32) (p2 : Int32) (p3 : Int32) (σ : zS) : zPr (sX10_whom σ.2.2) σ Prod.snd (fX10_whom p1 p2 p3 σ) := by
  unfold fX10_whom
  have hc := zSm.rfl (sX10_whom σ.2.2) σ
  repeat' first
    | exact zPr.none
    | exact zPr.some (by assumption)
    | refine zPr.ite ?_ ?_
    | refine zPr.wI (by assumption) (by simp only [sX10_whom, List.mem_cons, List.not_mem_nil, or_false]; omega) (fun _ _ => ?_)
    | refine zPr.wL (by assumption) (by simp only [sX10_whom, List.mem_cons, List.not_mem_nil, or_false]; omega) (fun _ _ => ?_)
    | refine zPr.bI (by assumption) (by simp only [sX10_whom, List.mem_cons, List.not_mem_nil, or_false]; omega) (fun _ _ => ?_)
    | refine zPr.bL (by assumption) (by simp only [sX10_whom, List.mem_cons, List.not_mem_nil, or_false]; omega) (fun _ _ => ?_)
    | refine zPr.wC (by assumption) (by simp only [sX10_whom, List.mem_cons, List.not_mem_nil, or_false]; omega) (fun _ _ => ?_)
    | refine zPr.aI (fun _ => ?_)
    | refine zPr.aL (fun _ => ?_)
    | refine zPr.gd ?_
    | refine zPr.bc (S' := sX0_bestToLaugh) (by assumption) (mX0_bestToLaugh ..) (fun p hp => by simp only [sX0_bestToLaugh, sX10_whom, List.mem_cons, List.not_mem_nil, or_false] at hp ⊢ <;> omega) (fun _ _ _ => ?_)
    | refine zPr.bc (S' := sX0_totalAmong) (by assumption) (mX0_totalAmong ..) (fun p hp => by simp only [sX0_totalAmong, sX10_whom, List.mem_cons, List.not_mem_nil, or_false] at hp ⊢ <;> omega) (fun _ _ _ => ?_)
    | refine zPr.bnr (fun _ => ?_)
    | refine zPr.bnv (fun _ => ?_)
def sX1_take (b2 : Bool) (t : Bool × Bool × Bool) : List Nat := [32, 33, 34]
theorem mX1_take_92 (b2 : Bool) : ∀ (fuel : Nat) (x3 : Int32) (x4 : Int32) (x5 : Int32) (σ : zS), zPr (sX1_take b2 σ.2.2) σ Prod.snd (fX1_take_92 b2 fuel x3 x4 x5 σ) := by
  intro fuel
  induction fuel with
  | zero => intro x3 x4 x5 σ; exact zPr.none
  | succ f ih =>
    intro x3 x4 x5 σ
    rw [fX1_take_92]
    have hc := zSm.rfl (sX1_take b2 σ.2.2) σ
    repeat' first
      | exact zPr.none
      | exact zPr.some (by assumption)
      | refine zPr.ite ?_ ?_
      | refine zPr.wI (by assumption) (by simp only [sX1_take, List.mem_cons, List.not_mem_nil, or_false]; omega) (fun _ _ => ?_)
      | refine zPr.wL (by assumption) (by simp only [sX1_take, List.mem_cons, List.not_mem_nil, or_false]; omega) (fun _ _ => ?_)
      | refine zPr.bI (by assumption) (by simp only [sX1_take, List.mem_cons, List.not_mem_nil, or_false]; omega) (fun _ _ => ?_)
      | refine zPr.bL (by assumption) (by simp only [sX1_take, List.mem_cons, List.not_mem_nil, or_false]; omega) (fun _ _ => ?_)
      | refine zPr.wC (by assumption) (by simp only [sX1_take, List.mem_cons, List.not_mem_nil, or_false]; omega) (fun _ _ => ?_)
      | refine zPr.aI (fun _ => ?_)
      | refine zPr.aL (fun _ => ?_)
      | refine zPr.gd ?_
      | refine zPr.bnr (fun _ => ?_)
      | refine zPr.bnv (fun _ => ?_)
      | exact zPr.tail (S' := sX1_take b2) (by assumption) (ih ..) (fun _ h => h)
theorem mX1_take_43 (b2 : Bool) : ∀ (fuel : Nat) (x3 : Int32) (x4 : Int32) (x5 : Int32) (σ : zS), zPr (sX1_take b2 σ.2.2) σ Prod.snd (fX1_take_43 b2 fuel x3 x4 x5 σ) := by
  intro fuel
  induction fuel with
  | zero => intro x3 x4 x5 σ; exact zPr.none
  | succ f ih =>
    intro x3 x4 x5 σ
    rw [fX1_take_43]
    have hc := zSm.rfl (sX1_take b2 σ.2.2) σ
    repeat' first
      | exact zPr.none
      | exact zPr.some (by assumption)
      | refine zPr.ite ?_ ?_
      | refine zPr.wI (by assumption) (by simp only [sX1_take, List.mem_cons, List.not_mem_nil, or_false]; omega) (fun _ _ => ?_)
      | refine zPr.wL (by assumption) (by simp only [sX1_take, List.mem_cons, List.not_mem_nil, or_false]; omega) (fun _ _ => ?_)
      | refine zPr.bI (by assumption) (by simp only [sX1_take, List.mem_cons, List.not_mem_nil, or_false]; omega) (fun _ _ => ?_)
      | refine zPr.bL (by assumption) (by simp only [sX1_take, List.mem_cons, List.not_mem_nil, or_false]; omega) (fun _ _ => ?_)
      | refine zPr.wC (by assumption) (by simp only [sX1_take, List.mem_cons, List.not_mem_nil, or_false]; omega) (fun _ _ => ?_)
      | refine zPr.aI (fun _ => ?_)
      | refine zPr.aL (fun _ => ?_)
      | refine zPr.gd ?_
      | refine zPr.bnr (fun _ => ?_)
      | refine zPr.bnv (fun _ => ?_)
      | exact zPr.tail (S' := sX1_take b2) (by assumption) (ih ..) (fun _ h => h)
      | exact zPr.tail (S' := sX1_take b2) (by assumption) (mX1_take_92 _ ..) (fun _ h => h)
theorem mX1_take (b2 : Bool) (p3 : Int32) (σ : zS) : zPr (sX1_take b2 σ.2.2) σ Prod.snd (fX1_take b2 p3 σ) := by
  unfold fX1_take
  have hc := zSm.rfl (sX1_take b2 σ.2.2) σ
  repeat' first
    | exact zPr.none
    | exact zPr.some (by assumption)
    | refine zPr.ite ?_ ?_
    | refine zPr.wI (by assumption) (by simp only [sX1_take, List.mem_cons, List.not_mem_nil, or_false]; omega) (fun _ _ => ?_)
    | refine zPr.wL (by assumption) (by simp only [sX1_take, List.mem_cons, List.not_mem_nil, or_false]; omega) (fun _ _ => ?_)
    | refine zPr.bI (by assumption) (by simp only [sX1_take, List.mem_cons, List.not_mem_nil, or_false]; omega) (fun _ _ => ?_)
    | refine zPr.bL (by assumption) (by simp only [sX1_take, List.mem_cons, List.not_mem_nil, or_false]; omega) (fun _ _ => ?_)
    | refine zPr.wC (by assumption) (by simp only [sX1_take, List.mem_cons, List.not_mem_nil, or_false]; omega) (fun _ _ => ?_)
    | refine zPr.aI (fun _ => ?_)
    | refine zPr.aL (fun _ => ?_)
    | refine zPr.gd ?_
    | refine zPr.bnr (fun _ => ?_)
    | refine zPr.bnv (fun _ => ?_)
    | exact zPr.tail (S' := sX1_take b2) (by assumption) (mX1_take_92 _ ..) (fun _ h => h)
    | exact zPr.tail (S' := sX1_take b2) (by assumption) (mX1_take_43 _ ..) (fun _ h => h)
def sX10_faces (t : Bool × Bool × Bool) : List Nat := [2, 32, 33, 34, 37]
theorem mX10_faces (p1 : Int32) (σ : zS) : zPr (sX10_faces σ.2.2) σ Prod.snd (fX10_faces p1 σ) := by
  unfold fX10_faces
  have hc := zSm.rfl (sX10_faces σ.2.2) σ
  repeat' first
    | exact zPr.none
    | exact zPr.some (by assumption)
    | refine zPr.ite ?_ ?_
    | refine zPr.wI (by assumption) (by simp only [sX10_faces, List.mem_cons, List.not_mem_nil, or_false]; omega) (fun _ _ => ?_)
    | refine zPr.wL (by assumption) (by simp only [sX10_faces, List.mem_cons, List.not_mem_nil, or_false]; omega) (fun _ _ => ?_)
    | refine zPr.bI (by assumption) (by simp only [sX10_faces, List.mem_cons, List.not_mem_nil, or_false]; omega) (fun _ _ => ?_)
    | refine zPr.bL (by assumption) (by simp only [sX10_faces, List.mem_cons, List.not_mem_nil, or_false]; omega) (fun _ _ => ?_)
    | refine zPr.wC (by assumption) (by simp only [sX10_faces, List.mem_cons, List.not_mem_nil, or_false]; omega) (fun _ _ => ?_)
    | refine zPr.aI (fun _ => ?_)
    | refine zPr.aL (fun _ => ?_)
    | refine zPr.gd ?_
    | refine zPr.bc (S' := sX10_refuse) (by assumption) (mX10_refuse ..) (fun p hp => by simp only [sX10_refuse, sX10_faces, List.mem_cons, List.not_mem_nil, or_false] at hp ⊢ <;> omega) (fun _ _ _ => ?_)
    | refine zPr.bc (S' := sX1_take _) (by assumption) (mX1_take ..) (fun p hp => by simp only [sX1_take, sX10_faces, List.mem_cons, List.not_mem_nil, or_false] at hp ⊢ <;> omega) (fun _ _ _ => ?_)
    | refine zPr.bnr (fun _ => ?_)
    | refine zPr.bnv (fun _ => ?_)
def sX2_add (t : Bool × Bool × Bool) : List Nat := [6, 7]
theorem mX2_add (σ : zS) : zPr (sX2_add σ.2.2) σ id (fX2_add σ) := by
  unfold fX2_add
  have hc := zSm.rfl (sX2_add σ.2.2) σ
  repeat' first
    | exact zPr.none
    | exact zPr.some (by assumption)
    | refine zPr.ite ?_ ?_
    | refine zPr.wI (by assumption) (by simp only [sX2_add, List.mem_cons, List.not_mem_nil, or_false]; omega) (fun _ _ => ?_)
    | refine zPr.wL (by assumption) (by simp only [sX2_add, List.mem_cons, List.not_mem_nil, or_false]; omega) (fun _ _ => ?_)
    | refine zPr.bI (by assumption) (by simp only [sX2_add, List.mem_cons, List.not_mem_nil, or_false]; omega) (fun _ _ => ?_)
    | refine zPr.bL (by assumption) (by simp only [sX2_add, List.mem_cons, List.not_mem_nil, or_false]; omega) (fun _ _ => ?_)
    | refine zPr.wC (by assumption) (by simp only [sX2_add, List.mem_cons, List.not_mem_nil, or_false]; omega) (fun _ _ => ?_)
    | refine zPr.aI (fun _ => ?_)
    | refine zPr.aL (fun _ => ?_)
    | refine zPr.gd ?_
    | refine zPr.bnr (fun _ => ?_)
    | refine zPr.bnv (fun _ => ?_)
def sX10_beginAct (t : Bool × Bool × Bool) : List Nat := [27, 6, 7]
theorem mX10_beginAct (σ : zS) : zPr (sX10_beginAct σ.2.2) σ id (fX10_beginAct σ) := by
  unfold fX10_beginAct
  have hc := zSm.rfl (sX10_beginAct σ.2.2) σ
  repeat' first
    | exact zPr.none
    | exact zPr.some (by assumption)
    | refine zPr.ite ?_ ?_
    | refine zPr.wI (by assumption) (by simp only [sX10_beginAct, List.mem_cons, List.not_mem_nil, or_false]; omega) (fun _ _ => ?_)
    | refine zPr.wL (by assumption) (by simp only [sX10_beginAct, List.mem_cons, List.not_mem_nil, or_false]; omega) (fun _ _ => ?_)
    | refine zPr.bI (by assumption) (by simp only [sX10_beginAct, List.mem_cons, List.not_mem_nil, or_false]; omega) (fun _ _ => ?_)
    | refine zPr.bL (by assumption) (by simp only [sX10_beginAct, List.mem_cons, List.not_mem_nil, or_false]; omega) (fun _ _ => ?_)
    | refine zPr.wC (by assumption) (by simp only [sX10_beginAct, List.mem_cons, List.not_mem_nil, or_false]; omega) (fun _ _ => ?_)
    | refine zPr.aI (fun _ => ?_)
    | refine zPr.aL (fun _ => ?_)
    | refine zPr.gd ?_
    | refine zPr.bw (S' := sX0_forget) (by assumption) (mX0_forget ..) (fun p hp => by simp only [sX0_forget, sX10_beginAct, List.mem_cons, List.not_mem_nil, or_false] at hp ⊢ <;> omega) (fun _ _ => ?_)
    | refine zPr.bw (S' := sX2_add) (by assumption) (mX2_add ..) (fun p hp => by simp only [sX2_add, sX10_beginAct, List.mem_cons, List.not_mem_nil, or_false] at hp ⊢ <;> omega) (fun _ _ => ?_)
    | refine zPr.bnr (fun _ => ?_)
    | refine zPr.bnv (fun _ => ?_)
def sX10_draw (t : Bool × Bool × Bool) : List Nat := [1]
theorem mX10_draw (p1 : Int32) (σ : zS) : zPr (sX10_draw σ.2.2) σ Prod.snd (fX10_draw p1 σ) := by
  unfold fX10_draw
  have hc := zSm.rfl (sX10_draw σ.2.2) σ
  repeat' first
    | exact zPr.none
    | exact zPr.some (by assumption)
    | refine zPr.ite ?_ ?_
    | refine zPr.wI (by assumption) (by simp only [sX10_draw, List.mem_cons, List.not_mem_nil, or_false]; omega) (fun _ _ => ?_)
    | refine zPr.wL (by assumption) (by simp only [sX10_draw, List.mem_cons, List.not_mem_nil, or_false]; omega) (fun _ _ => ?_)
    | refine zPr.bI (by assumption) (by simp only [sX10_draw, List.mem_cons, List.not_mem_nil, or_false]; omega) (fun _ _ => ?_)
    | refine zPr.bL (by assumption) (by simp only [sX10_draw, List.mem_cons, List.not_mem_nil, or_false]; omega) (fun _ _ => ?_)
    | refine zPr.wC (by assumption) (by simp only [sX10_draw, List.mem_cons, List.not_mem_nil, or_false]; omega) (fun _ _ => ?_)
    | refine zPr.aI (fun _ => ?_)
    | refine zPr.aL (fun _ => ?_)
    | refine zPr.gd ?_
    | refine zPr.bnr (fun _ => ?_)
    | refine zPr.bnv (fun _ => ?_)
def sX10_drawLength (t : Bool × Bool × Bool) : List Nat := [1]
theorem mX10_drawLength_31 : ∀ (fuel : Nat) (x1 : Int32) (c2 : Bool) (x3 : Int32) (x4 : Int32) (x5 : Int32) (σ : zS), zPr (sX10_drawLength σ.2.2) σ Prod.snd (fX10_drawLength_31 fuel x1 c2 x3 x4 x5 σ) := by
  intro fuel
  induction fuel with
  | zero => intro x1 c2 x3 x4 x5 σ; exact zPr.none
  | succ f ih =>
    intro x1 c2 x3 x4 x5 σ
    rw [fX10_drawLength_31]
    have hc := zSm.rfl (sX10_drawLength σ.2.2) σ
    repeat' first
      | exact zPr.none
      | exact zPr.some (by assumption)
      | refine zPr.ite ?_ ?_
      | refine zPr.wI (by assumption) (by simp only [sX10_drawLength, List.mem_cons, List.not_mem_nil, or_false]; omega) (fun _ _ => ?_)
      | refine zPr.wL (by assumption) (by simp only [sX10_drawLength, List.mem_cons, List.not_mem_nil, or_false]; omega) (fun _ _ => ?_)
      | refine zPr.bI (by assumption) (by simp only [sX10_drawLength, List.mem_cons, List.not_mem_nil, or_false]; omega) (fun _ _ => ?_)
      | refine zPr.bL (by assumption) (by simp only [sX10_drawLength, List.mem_cons, List.not_mem_nil, or_false]; omega) (fun _ _ => ?_)
      | refine zPr.wC (by assumption) (by simp only [sX10_drawLength, List.mem_cons, List.not_mem_nil, or_false]; omega) (fun _ _ => ?_)
      | refine zPr.aI (fun _ => ?_)
      | refine zPr.aL (fun _ => ?_)
      | refine zPr.gd ?_
      | refine zPr.bc (S' := sX10_draw) (by assumption) (mX10_draw ..) (fun p hp => by simp only [sX10_draw, sX10_drawLength, List.mem_cons, List.not_mem_nil, or_false] at hp ⊢ <;> omega) (fun _ _ _ => ?_)
      | refine zPr.bnr (fun _ => ?_)
      | refine zPr.bnv (fun _ => ?_)
      | exact zPr.tail (S' := sX10_drawLength) (by assumption) (ih ..) (fun _ h => h)
theorem mX10_drawLength (p1 : Int32) (σ : zS) : zPr (sX10_drawLength σ.2.2) σ Prod.snd (fX10_drawLength p1 σ) := by
  unfold fX10_drawLength
  have hc := zSm.rfl (sX10_drawLength σ.2.2) σ
  repeat' first
    | exact zPr.none
    | exact zPr.some (by assumption)
    | refine zPr.ite ?_ ?_
    | refine zPr.wI (by assumption) (by simp only [sX10_drawLength, List.mem_cons, List.not_mem_nil, or_false]; omega) (fun _ _ => ?_)
    | refine zPr.wL (by assumption) (by simp only [sX10_drawLength, List.mem_cons, List.not_mem_nil, or_false]; omega) (fun _ _ => ?_)
    | refine zPr.bI (by assumption) (by simp only [sX10_drawLength, List.mem_cons, List.not_mem_nil, or_false]; omega) (fun _ _ => ?_)
    | refine zPr.bL (by assumption) (by simp only [sX10_drawLength, List.mem_cons, List.not_mem_nil, or_false]; omega) (fun _ _ => ?_)
    | refine zPr.wC (by assumption) (by simp only [sX10_drawLength, List.mem_cons, List.not_mem_nil, or_false]; omega) (fun _ _ => ?_)
    | refine zPr.aI (fun _ => ?_)
    | refine zPr.aL (fun _ => ?_)
    | refine zPr.gd ?_
    | refine zPr.bc (S' := sX10_draw) (by assumption) (mX10_draw ..) (fun p hp => by simp only [sX10_draw, sX10_drawLength, List.mem_cons, List.not_mem_nil, or_false] at hp ⊢ <;> omega) (fun _ _ _ => ?_)
    | refine zPr.bnr (fun _ => ?_)
    | refine zPr.bnv (fun _ => ?_)
    | exact zPr.tail (S' := sX10_drawLength) (by assumption) (mX10_drawLength_31 ..) (fun _ h => h)
def sX7_setNextTunnel (t : Bool × Bool × Bool) : List Nat := [5]
theorem mX7_setNextTunnel (p1 : Int32) (σ : zS) : zPr (sX7_setNextTunnel σ.2.2) σ id (fX7_setNextTunnel p1 σ) := by
  unfold fX7_setNextTunnel
  have hc := zSm.rfl (sX7_setNextTunnel σ.2.2) σ
  repeat' first
    | exact zPr.none
    | exact zPr.some (by assumption)
    | refine zPr.ite ?_ ?_
    | refine zPr.wI (by assumption) (by simp only [sX7_setNextTunnel, List.mem_cons, List.not_mem_nil, or_false]; omega) (fun _ _ => ?_)
    | refine zPr.wL (by assumption) (by simp only [sX7_setNextTunnel, List.mem_cons, List.not_mem_nil, or_false]; omega) (fun _ _ => ?_)
    | refine zPr.bI (by assumption) (by simp only [sX7_setNextTunnel, List.mem_cons, List.not_mem_nil, or_false]; omega) (fun _ _ => ?_)
    | refine zPr.bL (by assumption) (by simp only [sX7_setNextTunnel, List.mem_cons, List.not_mem_nil, or_false]; omega) (fun _ _ => ?_)
    | refine zPr.wC (by assumption) (by simp only [sX7_setNextTunnel, List.mem_cons, List.not_mem_nil, or_false]; omega) (fun _ _ => ?_)
    | refine zPr.aI (fun _ => ?_)
    | refine zPr.aL (fun _ => ?_)
    | refine zPr.gd ?_
    | refine zPr.bnr (fun _ => ?_)
    | refine zPr.bnv (fun _ => ?_)
def sX7_addScore (t : Bool × Bool × Bool) : List Nat := [5]
theorem mX7_addScore (p1 : Int32) (p2 : Int32) (σ : zS) : zPr (sX7_addScore σ.2.2) σ id (fX7_addScore p1 p2 σ) := by
  unfold fX7_addScore
  have hc := zSm.rfl (sX7_addScore σ.2.2) σ
  repeat' first
    | exact zPr.none
    | exact zPr.some (by assumption)
    | refine zPr.ite ?_ ?_
    | refine zPr.wI (by assumption) (by simp only [sX7_addScore, List.mem_cons, List.not_mem_nil, or_false]; omega) (fun _ _ => ?_)
    | refine zPr.wL (by assumption) (by simp only [sX7_addScore, List.mem_cons, List.not_mem_nil, or_false]; omega) (fun _ _ => ?_)
    | refine zPr.bI (by assumption) (by simp only [sX7_addScore, List.mem_cons, List.not_mem_nil, or_false]; omega) (fun _ _ => ?_)
    | refine zPr.bL (by assumption) (by simp only [sX7_addScore, List.mem_cons, List.not_mem_nil, or_false]; omega) (fun _ _ => ?_)
    | refine zPr.wC (by assumption) (by simp only [sX7_addScore, List.mem_cons, List.not_mem_nil, or_false]; omega) (fun _ _ => ?_)
    | refine zPr.aI (fun _ => ?_)
    | refine zPr.aL (fun _ => ?_)
    | refine zPr.gd ?_
    | refine zPr.bnr (fun _ => ?_)
    | refine zPr.bnv (fun _ => ?_)
def sX4_tiredAmong (t : Bool × Bool × Bool) : List Nat := [rp t.2.1 + 11, rp t.2.1 + 13, 26]
theorem mX4_tiredAmong (p1 : Int32) (p2 : Int32) (p3 : Int32) (σ : zS) : zPr (sX4_tiredAmong σ.2.2) σ Prod.snd (fX4_tiredAmong p1 p2 p3 σ) := by
  unfold fX4_tiredAmong
  have hc := zSm.rfl (sX4_tiredAmong σ.2.2) σ
  repeat' first
    | exact zPr.none
    | exact zPr.some (by assumption)
    | refine zPr.ite ?_ ?_
    | refine zPr.wI (by assumption) (by simp only [sX4_tiredAmong, List.mem_cons, List.not_mem_nil, or_false]; omega) (fun _ _ => ?_)
    | refine zPr.wL (by assumption) (by simp only [sX4_tiredAmong, List.mem_cons, List.not_mem_nil, or_false]; omega) (fun _ _ => ?_)
    | refine zPr.bI (by assumption) (by simp only [sX4_tiredAmong, List.mem_cons, List.not_mem_nil, or_false]; omega) (fun _ _ => ?_)
    | refine zPr.bL (by assumption) (by simp only [sX4_tiredAmong, List.mem_cons, List.not_mem_nil, or_false]; omega) (fun _ _ => ?_)
    | refine zPr.wC (by assumption) (by simp only [sX4_tiredAmong, List.mem_cons, List.not_mem_nil, or_false]; omega) (fun _ _ => ?_)
    | refine zPr.aI (fun _ => ?_)
    | refine zPr.aL (fun _ => ?_)
    | refine zPr.gd ?_
    | refine zPr.bw (S' := sX4_tellAmong) (by assumption) (mX4_tellAmong ..) (fun p hp => by simp only [sX4_tellAmong, sX4_tiredAmong, List.mem_cons, List.not_mem_nil, or_false] at hp ⊢ <;> omega) (fun _ _ => ?_)
    | refine zPr.bc (S' := sX8_valueOf _ _) (by assumption) (mX8_valueOf ..) (fun p hp => by simp only [sX8_valueOf, sX4_tiredAmong, List.mem_cons, List.not_mem_nil, or_false] at hp ⊢ <;> omega) (fun _ _ _ => ?_)
    | refine zPr.bnr (fun _ => ?_)
    | refine zPr.bnv (fun _ => ?_)
def sX7_setBreath (t : Bool × Bool × Bool) : List Nat := [5]
theorem mX7_setBreath (p1 : Int32) (p2 : Int32) (σ : zS) : zPr (sX7_setBreath σ.2.2) σ id (fX7_setBreath p1 p2 σ) := by
  unfold fX7_setBreath
  have hc := zSm.rfl (sX7_setBreath σ.2.2) σ
  repeat' first
    | exact zPr.none
    | exact zPr.some (by assumption)
    | refine zPr.ite ?_ ?_
    | refine zPr.wI (by assumption) (by simp only [sX7_setBreath, List.mem_cons, List.not_mem_nil, or_false]; omega) (fun _ _ => ?_)
    | refine zPr.wL (by assumption) (by simp only [sX7_setBreath, List.mem_cons, List.not_mem_nil, or_false]; omega) (fun _ _ => ?_)
    | refine zPr.bI (by assumption) (by simp only [sX7_setBreath, List.mem_cons, List.not_mem_nil, or_false]; omega) (fun _ _ => ?_)
    | refine zPr.bL (by assumption) (by simp only [sX7_setBreath, List.mem_cons, List.not_mem_nil, or_false]; omega) (fun _ _ => ?_)
    | refine zPr.wC (by assumption) (by simp only [sX7_setBreath, List.mem_cons, List.not_mem_nil, or_false]; omega) (fun _ _ => ?_)
    | refine zPr.aI (fun _ => ?_)
    | refine zPr.aL (fun _ => ?_)
    | refine zPr.gd ?_
    | refine zPr.bnr (fun _ => ?_)
    | refine zPr.bnv (fun _ => ?_)
def sX7_keep (t : Bool × Bool × Bool) : List Nat := [5]
theorem mX7_keep (p1 : Int32) (p2 : Int32) (p3 : Int32) (p4 : Int32) (σ : zS) : zPr (sX7_keep σ.2.2) σ id (fX7_keep p1 p2 p3 p4 σ) := by
  unfold fX7_keep
  have hc := zSm.rfl (sX7_keep σ.2.2) σ
  repeat' first
    | exact zPr.none
    | exact zPr.some (by assumption)
    | refine zPr.ite ?_ ?_
    | refine zPr.wI (by assumption) (by simp only [sX7_keep, List.mem_cons, List.not_mem_nil, or_false]; omega) (fun _ _ => ?_)
    | refine zPr.wL (by assumption) (by simp only [sX7_keep, List.mem_cons, List.not_mem_nil, or_false]; omega) (fun _ _ => ?_)
    | refine zPr.bI (by assumption) (by simp only [sX7_keep, List.mem_cons, List.not_mem_nil, or_false]; omega) (fun _ _ => ?_)
    | refine zPr.bL (by assumption) (by simp only [sX7_keep, List.mem_cons, List.not_mem_nil, or_false]; omega) (fun _ _ => ?_)
    | refine zPr.wC (by assumption) (by simp only [sX7_keep, List.mem_cons, List.not_mem_nil, or_false]; omega) (fun _ _ => ?_)
    | refine zPr.aI (fun _ => ?_)
    | refine zPr.aL (fun _ => ?_)
    | refine zPr.gd ?_
    | refine zPr.bnr (fun _ => ?_)
    | refine zPr.bnv (fun _ => ?_)
def sX10_drawHeld (t : Bool × Bool × Bool) : List Nat := [1]
theorem mX10_drawHeld_8 : ∀ (fuel : Nat) (x1 : Int32) (x2 : Int32) (x3 : Int32) (σ : zS), zPr (sX10_drawHeld σ.2.2) σ Prod.snd (fX10_drawHeld_8 fuel x1 x2 x3 σ) := by
  intro fuel
  induction fuel with
  | zero => intro x1 x2 x3 σ; exact zPr.none
  | succ f ih =>
    intro x1 x2 x3 σ
    rw [fX10_drawHeld_8]
    have hc := zSm.rfl (sX10_drawHeld σ.2.2) σ
    repeat' first
      | exact zPr.none
      | exact zPr.some (by assumption)
      | refine zPr.ite ?_ ?_
      | refine zPr.wI (by assumption) (by simp only [sX10_drawHeld, List.mem_cons, List.not_mem_nil, or_false]; omega) (fun _ _ => ?_)
      | refine zPr.wL (by assumption) (by simp only [sX10_drawHeld, List.mem_cons, List.not_mem_nil, or_false]; omega) (fun _ _ => ?_)
      | refine zPr.bI (by assumption) (by simp only [sX10_drawHeld, List.mem_cons, List.not_mem_nil, or_false]; omega) (fun _ _ => ?_)
      | refine zPr.bL (by assumption) (by simp only [sX10_drawHeld, List.mem_cons, List.not_mem_nil, or_false]; omega) (fun _ _ => ?_)
      | refine zPr.wC (by assumption) (by simp only [sX10_drawHeld, List.mem_cons, List.not_mem_nil, or_false]; omega) (fun _ _ => ?_)
      | refine zPr.aI (fun _ => ?_)
      | refine zPr.aL (fun _ => ?_)
      | refine zPr.gd ?_
      | refine zPr.bc (S' := sX10_draw) (by assumption) (mX10_draw ..) (fun p hp => by simp only [sX10_draw, sX10_drawHeld, List.mem_cons, List.not_mem_nil, or_false] at hp ⊢ <;> omega) (fun _ _ _ => ?_)
      | refine zPr.bnr (fun _ => ?_)
      | refine zPr.bnv (fun _ => ?_)
      | exact zPr.tail (S' := sX10_drawHeld) (by assumption) (ih ..) (fun _ h => h)
theorem mX10_drawHeld (p1 : Int32) (p2 : Int32) (σ : zS) : zPr (sX10_drawHeld σ.2.2) σ Prod.snd (fX10_drawHeld p1 p2 σ) := by
  unfold fX10_drawHeld
  have hc := zSm.rfl (sX10_drawHeld σ.2.2) σ
  repeat' first
    | exact zPr.none
    | exact zPr.some (by assumption)
    | refine zPr.ite ?_ ?_
    | refine zPr.wI (by assumption) (by simp only [sX10_drawHeld, List.mem_cons, List.not_mem_nil, or_false]; omega) (fun _ _ => ?_)
    | refine zPr.wL (by assumption) (by simp only [sX10_drawHeld, List.mem_cons, List.not_mem_nil, or_false]; omega) (fun _ _ => ?_)
    | refine zPr.bI (by assumption) (by simp only [sX10_drawHeld, List.mem_cons, List.not_mem_nil, or_false]; omega) (fun _ _ => ?_)
    | refine zPr.bL (by assumption) (by simp only [sX10_drawHeld, List.mem_cons, List.not_mem_nil, or_false]; omega) (fun _ _ => ?_)
    | refine zPr.wC (by assumption) (by simp only [sX10_drawHeld, List.mem_cons, List.not_mem_nil, or_false]; omega) (fun _ _ => ?_)
    | refine zPr.aI (fun _ => ?_)
    | refine zPr.aL (fun _ => ?_)
    | refine zPr.gd ?_
    | refine zPr.bc (S' := sX10_draw) (by assumption) (mX10_draw ..) (fun p hp => by simp only [sX10_draw, sX10_drawHeld, List.mem_cons, List.not_mem_nil, or_false] at hp ⊢ <;> omega) (fun _ _ _ => ?_)
    | refine zPr.bnr (fun _ => ?_)
    | refine zPr.bnv (fun _ => ?_)
    | exact zPr.tail (S' := sX10_drawHeld) (by assumption) (mX10_drawHeld_8 ..) (fun _ h => h)
def sX10_driveThrough (t : Bool × Bool × Bool) : List Nat := [rp t.2.1 + 11, rp t.2.1 + 13, 1, 25, 26, 5]
theorem mX10_driveThrough_190 (x4 : Int32) (s0 : Int32) (σ : zS) : zPr (sX10_driveThrough σ.2.2) σ Prod.snd (fX10_driveThrough_190 x4 s0 σ) := by
  unfold fX10_driveThrough_190
  have hc := zSm.rfl (sX10_driveThrough σ.2.2) σ
  repeat' first
    | exact zPr.none
    | exact zPr.some (by assumption)
    | refine zPr.ite ?_ ?_
    | refine zPr.wI (by assumption) (by simp only [sX10_driveThrough, List.mem_cons, List.not_mem_nil, or_false]; omega) (fun _ _ => ?_)
    | refine zPr.wL (by assumption) (by simp only [sX10_driveThrough, List.mem_cons, List.not_mem_nil, or_false]; omega) (fun _ _ => ?_)
    | refine zPr.bI (by assumption) (by simp only [sX10_driveThrough, List.mem_cons, List.not_mem_nil, or_false]; omega) (fun _ _ => ?_)
    | refine zPr.bL (by assumption) (by simp only [sX10_driveThrough, List.mem_cons, List.not_mem_nil, or_false]; omega) (fun _ _ => ?_)
    | refine zPr.wC (by assumption) (by simp only [sX10_driveThrough, List.mem_cons, List.not_mem_nil, or_false]; omega) (fun _ _ => ?_)
    | refine zPr.aI (fun _ => ?_)
    | refine zPr.aL (fun _ => ?_)
    | refine zPr.gd ?_
    | refine zPr.bc (S' := sX10_drawHeld) (by assumption) (mX10_drawHeld ..) (fun p hp => by simp only [sX10_drawHeld, sX10_driveThrough, List.mem_cons, List.not_mem_nil, or_false] at hp ⊢ <;> omega) (fun _ _ _ => ?_)
    | refine zPr.bc (S' := sX10_drawLength) (by assumption) (mX10_drawLength ..) (fun p hp => by simp only [sX10_drawLength, sX10_driveThrough, List.mem_cons, List.not_mem_nil, or_false] at hp ⊢ <;> omega) (fun _ _ _ => ?_)
    | refine zPr.bc (S' := sX4_tiredAmong) (by assumption) (mX4_tiredAmong ..) (fun p hp => by simp only [sX4_tiredAmong, sX10_driveThrough, List.mem_cons, List.not_mem_nil, or_false] at hp ⊢ <;> omega) (fun _ _ _ => ?_)
    | refine zPr.bc (S' := sX4_worthAmong) (by assumption) (mX4_worthAmong ..) (fun p hp => by simp only [sX4_worthAmong, sX10_driveThrough, List.mem_cons, List.not_mem_nil, or_false] at hp ⊢ <;> omega) (fun _ _ _ => ?_)
    | refine zPr.bw (S' := sX7_addScore) (by assumption) (mX7_addScore ..) (fun p hp => by simp only [sX7_addScore, sX10_driveThrough, List.mem_cons, List.not_mem_nil, or_false] at hp ⊢ <;> omega) (fun _ _ => ?_)
    | refine zPr.bw (S' := sX7_keep) (by assumption) (mX7_keep ..) (fun p hp => by simp only [sX7_keep, sX10_driveThrough, List.mem_cons, List.not_mem_nil, or_false] at hp ⊢ <;> omega) (fun _ _ => ?_)
    | refine zPr.bw (S' := sX7_setBreath) (by assumption) (mX7_setBreath ..) (fun p hp => by simp only [sX7_setBreath, sX10_driveThrough, List.mem_cons, List.not_mem_nil, or_false] at hp ⊢ <;> omega) (fun _ _ => ?_)
    | refine zPr.bw (S' := sX7_setNextTunnel) (by assumption) (mX7_setNextTunnel ..) (fun p hp => by simp only [sX7_setNextTunnel, sX10_driveThrough, List.mem_cons, List.not_mem_nil, or_false] at hp ⊢ <;> omega) (fun _ _ => ?_)
    | refine zPr.bnr (fun _ => ?_)
    | refine zPr.bnv (fun _ => ?_)
theorem mX10_driveThrough_93 : ∀ (fuel : Nat) (c1 : Bool) (x2 : Int32) (x3 : Int32) (x4 : Int32) (x5 : Int32) (σ : zS), zPr (sX10_driveThrough σ.2.2) σ Prod.snd (fX10_driveThrough_93 fuel c1 x2 x3 x4 x5 σ) := by
  intro fuel
  induction fuel with
  | zero => intro c1 x2 x3 x4 x5 σ; exact zPr.none
  | succ f ih =>
    intro c1 x2 x3 x4 x5 σ
    rw [fX10_driveThrough_93]
    have hc := zSm.rfl (sX10_driveThrough σ.2.2) σ
    repeat' first
      | exact zPr.none
      | exact zPr.some (by assumption)
      | refine zPr.ite ?_ ?_
      | refine zPr.wI (by assumption) (by simp only [sX10_driveThrough, List.mem_cons, List.not_mem_nil, or_false]; omega) (fun _ _ => ?_)
      | refine zPr.wL (by assumption) (by simp only [sX10_driveThrough, List.mem_cons, List.not_mem_nil, or_false]; omega) (fun _ _ => ?_)
      | refine zPr.bI (by assumption) (by simp only [sX10_driveThrough, List.mem_cons, List.not_mem_nil, or_false]; omega) (fun _ _ => ?_)
      | refine zPr.bL (by assumption) (by simp only [sX10_driveThrough, List.mem_cons, List.not_mem_nil, or_false]; omega) (fun _ _ => ?_)
      | refine zPr.wC (by assumption) (by simp only [sX10_driveThrough, List.mem_cons, List.not_mem_nil, or_false]; omega) (fun _ _ => ?_)
      | refine zPr.aI (fun _ => ?_)
      | refine zPr.aL (fun _ => ?_)
      | refine zPr.gd ?_
      | refine zPr.bc (S' := sX10_drawHeld) (by assumption) (mX10_drawHeld ..) (fun p hp => by simp only [sX10_drawHeld, sX10_driveThrough, List.mem_cons, List.not_mem_nil, or_false] at hp ⊢ <;> omega) (fun _ _ _ => ?_)
      | refine zPr.bc (S' := sX10_drawLength) (by assumption) (mX10_drawLength ..) (fun p hp => by simp only [sX10_drawLength, sX10_driveThrough, List.mem_cons, List.not_mem_nil, or_false] at hp ⊢ <;> omega) (fun _ _ _ => ?_)
      | refine zPr.bc (S' := sX4_tiredAmong) (by assumption) (mX4_tiredAmong ..) (fun p hp => by simp only [sX4_tiredAmong, sX10_driveThrough, List.mem_cons, List.not_mem_nil, or_false] at hp ⊢ <;> omega) (fun _ _ _ => ?_)
      | refine zPr.bc (S' := sX4_worthAmong) (by assumption) (mX4_worthAmong ..) (fun p hp => by simp only [sX4_worthAmong, sX10_driveThrough, List.mem_cons, List.not_mem_nil, or_false] at hp ⊢ <;> omega) (fun _ _ _ => ?_)
      | refine zPr.bw (S' := sX7_addScore) (by assumption) (mX7_addScore ..) (fun p hp => by simp only [sX7_addScore, sX10_driveThrough, List.mem_cons, List.not_mem_nil, or_false] at hp ⊢ <;> omega) (fun _ _ => ?_)
      | refine zPr.bw (S' := sX7_keep) (by assumption) (mX7_keep ..) (fun p hp => by simp only [sX7_keep, sX10_driveThrough, List.mem_cons, List.not_mem_nil, or_false] at hp ⊢ <;> omega) (fun _ _ => ?_)
      | refine zPr.bw (S' := sX7_setBreath) (by assumption) (mX7_setBreath ..) (fun p hp => by simp only [sX7_setBreath, sX10_driveThrough, List.mem_cons, List.not_mem_nil, or_false] at hp ⊢ <;> omega) (fun _ _ => ?_)
      | refine zPr.bw (S' := sX7_setNextTunnel) (by assumption) (mX7_setNextTunnel ..) (fun p hp => by simp only [sX7_setNextTunnel, sX10_driveThrough, List.mem_cons, List.not_mem_nil, or_false] at hp ⊢ <;> omega) (fun _ _ => ?_)
      | refine zPr.bnr (fun _ => ?_)
      | refine zPr.bnv (fun _ => ?_)
      | exact zPr.tail (S' := sX10_driveThrough) (by assumption) (ih ..) (fun _ h => h)
      | exact zPr.tail (S' := sX10_driveThrough) (by assumption) (mX10_driveThrough_190 ..) (fun _ h => h)
theorem mX10_driveThrough_28 : ∀ (fuel : Nat) (c1 : Bool) (x2 : Int32) (x3 : Int32) (x4 : Int32) (x5 : Int32) (σ : zS), zPr (sX10_driveThrough σ.2.2) σ Prod.snd (fX10_driveThrough_28 fuel c1 x2 x3 x4 x5 σ) := by
  intro fuel
  induction fuel with
  | zero => intro c1 x2 x3 x4 x5 σ; exact zPr.none
  | succ f ih =>
    intro c1 x2 x3 x4 x5 σ
    rw [fX10_driveThrough_28]
    have hc := zSm.rfl (sX10_driveThrough σ.2.2) σ
    repeat' first
      | exact zPr.none
      | exact zPr.some (by assumption)
      | refine zPr.ite ?_ ?_
      | refine zPr.wI (by assumption) (by simp only [sX10_driveThrough, List.mem_cons, List.not_mem_nil, or_false]; omega) (fun _ _ => ?_)
      | refine zPr.wL (by assumption) (by simp only [sX10_driveThrough, List.mem_cons, List.not_mem_nil, or_false]; omega) (fun _ _ => ?_)
      | refine zPr.bI (by assumption) (by simp only [sX10_driveThrough, List.mem_cons, List.not_mem_nil, or_false]; omega) (fun _ _ => ?_)
      | refine zPr.bL (by assumption) (by simp only [sX10_driveThrough, List.mem_cons, List.not_mem_nil, or_false]; omega) (fun _ _ => ?_)
      | refine zPr.wC (by assumption) (by simp only [sX10_driveThrough, List.mem_cons, List.not_mem_nil, or_false]; omega) (fun _ _ => ?_)
      | refine zPr.aI (fun _ => ?_)
      | refine zPr.aL (fun _ => ?_)
      | refine zPr.gd ?_
      | refine zPr.bc (S' := sX10_drawHeld) (by assumption) (mX10_drawHeld ..) (fun p hp => by simp only [sX10_drawHeld, sX10_driveThrough, List.mem_cons, List.not_mem_nil, or_false] at hp ⊢ <;> omega) (fun _ _ _ => ?_)
      | refine zPr.bc (S' := sX10_drawLength) (by assumption) (mX10_drawLength ..) (fun p hp => by simp only [sX10_drawLength, sX10_driveThrough, List.mem_cons, List.not_mem_nil, or_false] at hp ⊢ <;> omega) (fun _ _ _ => ?_)
      | refine zPr.bc (S' := sX4_tiredAmong) (by assumption) (mX4_tiredAmong ..) (fun p hp => by simp only [sX4_tiredAmong, sX10_driveThrough, List.mem_cons, List.not_mem_nil, or_false] at hp ⊢ <;> omega) (fun _ _ _ => ?_)
      | refine zPr.bc (S' := sX4_worthAmong) (by assumption) (mX4_worthAmong ..) (fun p hp => by simp only [sX4_worthAmong, sX10_driveThrough, List.mem_cons, List.not_mem_nil, or_false] at hp ⊢ <;> omega) (fun _ _ _ => ?_)
      | refine zPr.bw (S' := sX7_addScore) (by assumption) (mX7_addScore ..) (fun p hp => by simp only [sX7_addScore, sX10_driveThrough, List.mem_cons, List.not_mem_nil, or_false] at hp ⊢ <;> omega) (fun _ _ => ?_)
      | refine zPr.bw (S' := sX7_keep) (by assumption) (mX7_keep ..) (fun p hp => by simp only [sX7_keep, sX10_driveThrough, List.mem_cons, List.not_mem_nil, or_false] at hp ⊢ <;> omega) (fun _ _ => ?_)
      | refine zPr.bw (S' := sX7_setBreath) (by assumption) (mX7_setBreath ..) (fun p hp => by simp only [sX7_setBreath, sX10_driveThrough, List.mem_cons, List.not_mem_nil, or_false] at hp ⊢ <;> omega) (fun _ _ => ?_)
      | refine zPr.bw (S' := sX7_setNextTunnel) (by assumption) (mX7_setNextTunnel ..) (fun p hp => by simp only [sX7_setNextTunnel, sX10_driveThrough, List.mem_cons, List.not_mem_nil, or_false] at hp ⊢ <;> omega) (fun _ _ => ?_)
      | refine zPr.bnr (fun _ => ?_)
      | refine zPr.bnv (fun _ => ?_)
      | exact zPr.tail (S' := sX10_driveThrough) (by assumption) (ih ..) (fun _ h => h)
      | exact zPr.tail (S' := sX10_driveThrough) (by assumption) (mX10_driveThrough_190 ..) (fun _ h => h)
      | exact zPr.tail (S' := sX10_driveThrough) (by assumption) (mX10_driveThrough_93 ..) (fun _ h => h)
theorem mX10_driveThrough (σ : zS) : zPr (sX10_driveThrough σ.2.2) σ Prod.snd (fX10_driveThrough σ) := by
  unfold fX10_driveThrough
  have hc := zSm.rfl (sX10_driveThrough σ.2.2) σ
  repeat' first
    | exact zPr.none
    | exact zPr.some (by assumption)
    | refine zPr.ite ?_ ?_
    | refine zPr.wI (by assumption) (by simp only [sX10_driveThrough, List.mem_cons, List.not_mem_nil, or_false]; omega) (fun _ _ => ?_)
    | refine zPr.wL (by assumption) (by simp only [sX10_driveThrough, List.mem_cons, List.not_mem_nil, or_false]; omega) (fun _ _ => ?_)
    | refine zPr.bI (by assumption) (by simp only [sX10_driveThrough, List.mem_cons, List.not_mem_nil, or_false]; omega) (fun _ _ => ?_)
    | refine zPr.bL (by assumption) (by simp only [sX10_driveThrough, List.mem_cons, List.not_mem_nil, or_false]; omega) (fun _ _ => ?_)
    | refine zPr.wC (by assumption) (by simp only [sX10_driveThrough, List.mem_cons, List.not_mem_nil, or_false]; omega) (fun _ _ => ?_)
    | refine zPr.aI (fun _ => ?_)
    | refine zPr.aL (fun _ => ?_)
    | refine zPr.gd ?_
    | refine zPr.bc (S' := sX10_drawHeld) (by assumption) (mX10_drawHeld ..) (fun p hp => by simp only [sX10_drawHeld, sX10_driveThrough, List.mem_cons, List.not_mem_nil, or_false] at hp ⊢ <;> omega) (fun _ _ _ => ?_)
    | refine zPr.bc (S' := sX10_drawLength) (by assumption) (mX10_drawLength ..) (fun p hp => by simp only [sX10_drawLength, sX10_driveThrough, List.mem_cons, List.not_mem_nil, or_false] at hp ⊢ <;> omega) (fun _ _ _ => ?_)
    | refine zPr.bc (S' := sX4_tiredAmong) (by assumption) (mX4_tiredAmong ..) (fun p hp => by simp only [sX4_tiredAmong, sX10_driveThrough, List.mem_cons, List.not_mem_nil, or_false] at hp ⊢ <;> omega) (fun _ _ _ => ?_)
    | refine zPr.bc (S' := sX4_worthAmong) (by assumption) (mX4_worthAmong ..) (fun p hp => by simp only [sX4_worthAmong, sX10_driveThrough, List.mem_cons, List.not_mem_nil, or_false] at hp ⊢ <;> omega) (fun _ _ _ => ?_)
    | refine zPr.bw (S' := sX7_addScore) (by assumption) (mX7_addScore ..) (fun p hp => by simp only [sX7_addScore, sX10_driveThrough, List.mem_cons, List.not_mem_nil, or_false] at hp ⊢ <;> omega) (fun _ _ => ?_)
    | refine zPr.bw (S' := sX7_keep) (by assumption) (mX7_keep ..) (fun p hp => by simp only [sX7_keep, sX10_driveThrough, List.mem_cons, List.not_mem_nil, or_false] at hp ⊢ <;> omega) (fun _ _ => ?_)
    | refine zPr.bw (S' := sX7_setBreath) (by assumption) (mX7_setBreath ..) (fun p hp => by simp only [sX7_setBreath, sX10_driveThrough, List.mem_cons, List.not_mem_nil, or_false] at hp ⊢ <;> omega) (fun _ _ => ?_)
    | refine zPr.bw (S' := sX7_setNextTunnel) (by assumption) (mX7_setNextTunnel ..) (fun p hp => by simp only [sX7_setNextTunnel, sX10_driveThrough, List.mem_cons, List.not_mem_nil, or_false] at hp ⊢ <;> omega) (fun _ _ => ?_)
    | refine zPr.bnr (fun _ => ?_)
    | refine zPr.bnv (fun _ => ?_)
    | exact zPr.tail (S' := sX10_driveThrough) (by assumption) (mX10_driveThrough_190 ..) (fun _ h => h)
    | exact zPr.tail (S' := sX10_driveThrough) (by assumption) (mX10_driveThrough_93 ..) (fun _ h => h)
    | exact zPr.tail (S' := sX10_driveThrough) (by assumption) (mX10_driveThrough_28 ..) (fun _ h => h)
def sX10_drive (t : Bool × Bool × Bool) : List Nat := [rp t.2.1 + 11, rp t.2.1 + 13, 1, 25, 26, 27, 37, 5, 6, 7]
theorem mX10_drive_24 (σ : zS) : zPr (sX10_drive σ.2.2) σ Prod.snd (fX10_drive_24 σ) := by
  unfold fX10_drive_24
  have hc := zSm.rfl (sX10_drive σ.2.2) σ
  repeat' first
    | exact zPr.none
    | exact zPr.some (by assumption)
    | refine zPr.ite ?_ ?_
    | refine zPr.wI (by assumption) (by simp only [sX10_drive, List.mem_cons, List.not_mem_nil, or_false]; omega) (fun _ _ => ?_)
    | refine zPr.wL (by assumption) (by simp only [sX10_drive, List.mem_cons, List.not_mem_nil, or_false]; omega) (fun _ _ => ?_)
    | refine zPr.bI (by assumption) (by simp only [sX10_drive, List.mem_cons, List.not_mem_nil, or_false]; omega) (fun _ _ => ?_)
    | refine zPr.bL (by assumption) (by simp only [sX10_drive, List.mem_cons, List.not_mem_nil, or_false]; omega) (fun _ _ => ?_)
    | refine zPr.wC (by assumption) (by simp only [sX10_drive, List.mem_cons, List.not_mem_nil, or_false]; omega) (fun _ _ => ?_)
    | refine zPr.aI (fun _ => ?_)
    | refine zPr.aL (fun _ => ?_)
    | refine zPr.gd ?_
    | refine zPr.bw (S' := sX10_beginAct) (by assumption) (mX10_beginAct ..) (fun p hp => by simp only [sX10_beginAct, sX10_drive, List.mem_cons, List.not_mem_nil, or_false] at hp ⊢ <;> omega) (fun _ _ => ?_)
    | refine zPr.bc (S' := sX10_driveThrough) (by assumption) (mX10_driveThrough ..) (fun p hp => by simp only [sX10_driveThrough, sX10_drive, List.mem_cons, List.not_mem_nil, or_false] at hp ⊢ <;> omega) (fun _ _ _ => ?_)
    | refine zPr.bc (S' := sX10_refuse) (by assumption) (mX10_refuse ..) (fun p hp => by simp only [sX10_refuse, sX10_drive, List.mem_cons, List.not_mem_nil, or_false] at hp ⊢ <;> omega) (fun _ _ _ => ?_)
    | refine zPr.bnr (fun _ => ?_)
    | refine zPr.bnv (fun _ => ?_)
theorem mX10_drive_38 : ∀ (fuel : Nat) (x1 : Int32) (x2 : Int32) (x3 : Int32) (σ : zS), zPr (sX10_drive σ.2.2) σ Prod.snd (fX10_drive_38 fuel x1 x2 x3 σ) := by
  intro fuel
  induction fuel with
  | zero => intro x1 x2 x3 σ; exact zPr.none
  | succ f ih =>
    intro x1 x2 x3 σ
    rw [fX10_drive_38]
    have hc := zSm.rfl (sX10_drive σ.2.2) σ
    repeat' first
      | exact zPr.none
      | exact zPr.some (by assumption)
      | refine zPr.ite ?_ ?_
      | refine zPr.wI (by assumption) (by simp only [sX10_drive, List.mem_cons, List.not_mem_nil, or_false]; omega) (fun _ _ => ?_)
      | refine zPr.wL (by assumption) (by simp only [sX10_drive, List.mem_cons, List.not_mem_nil, or_false]; omega) (fun _ _ => ?_)
      | refine zPr.bI (by assumption) (by simp only [sX10_drive, List.mem_cons, List.not_mem_nil, or_false]; omega) (fun _ _ => ?_)
      | refine zPr.bL (by assumption) (by simp only [sX10_drive, List.mem_cons, List.not_mem_nil, or_false]; omega) (fun _ _ => ?_)
      | refine zPr.wC (by assumption) (by simp only [sX10_drive, List.mem_cons, List.not_mem_nil, or_false]; omega) (fun _ _ => ?_)
      | refine zPr.aI (fun _ => ?_)
      | refine zPr.aL (fun _ => ?_)
      | refine zPr.gd ?_
      | refine zPr.bw (S' := sX10_beginAct) (by assumption) (mX10_beginAct ..) (fun p hp => by simp only [sX10_beginAct, sX10_drive, List.mem_cons, List.not_mem_nil, or_false] at hp ⊢ <;> omega) (fun _ _ => ?_)
      | refine zPr.bc (S' := sX10_driveThrough) (by assumption) (mX10_driveThrough ..) (fun p hp => by simp only [sX10_driveThrough, sX10_drive, List.mem_cons, List.not_mem_nil, or_false] at hp ⊢ <;> omega) (fun _ _ _ => ?_)
      | refine zPr.bc (S' := sX10_refuse) (by assumption) (mX10_refuse ..) (fun p hp => by simp only [sX10_refuse, sX10_drive, List.mem_cons, List.not_mem_nil, or_false] at hp ⊢ <;> omega) (fun _ _ _ => ?_)
      | refine zPr.bnr (fun _ => ?_)
      | refine zPr.bnv (fun _ => ?_)
      | exact zPr.tail (S' := sX10_drive) (by assumption) (ih ..) (fun _ h => h)
      | exact zPr.tail (S' := sX10_drive) (by assumption) (mX10_drive_24 ..) (fun _ h => h)
theorem mX10_drive (p1 : Int32) (σ : zS) : zPr (sX10_drive σ.2.2) σ Prod.snd (fX10_drive p1 σ) := by
  unfold fX10_drive
  have hc := zSm.rfl (sX10_drive σ.2.2) σ
  repeat' first
    | exact zPr.none
    | exact zPr.some (by assumption)
    | refine zPr.ite ?_ ?_
    | refine zPr.wI (by assumption) (by simp only [sX10_drive, List.mem_cons, List.not_mem_nil, or_false]; omega) (fun _ _ => ?_)
    | refine zPr.wL (by assumption) (by simp only [sX10_drive, List.mem_cons, List.not_mem_nil, or_false]; omega) (fun _ _ => ?_)
    | refine zPr.bI (by assumption) (by simp only [sX10_drive, List.mem_cons, List.not_mem_nil, or_false]; omega) (fun _ _ => ?_)
    | refine zPr.bL (by assumption) (by simp only [sX10_drive, List.mem_cons, List.not_mem_nil, or_false]; omega) (fun _ _ => ?_)
    | refine zPr.wC (by assumption) (by simp only [sX10_drive, List.mem_cons, List.not_mem_nil, or_false]; omega) (fun _ _ => ?_)
    | refine zPr.aI (fun _ => ?_)
    | refine zPr.aL (fun _ => ?_)
    | refine zPr.gd ?_
    | refine zPr.bw (S' := sX10_beginAct) (by assumption) (mX10_beginAct ..) (fun p hp => by simp only [sX10_beginAct, sX10_drive, List.mem_cons, List.not_mem_nil, or_false] at hp ⊢ <;> omega) (fun _ _ => ?_)
    | refine zPr.bc (S' := sX10_driveThrough) (by assumption) (mX10_driveThrough ..) (fun p hp => by simp only [sX10_driveThrough, sX10_drive, List.mem_cons, List.not_mem_nil, or_false] at hp ⊢ <;> omega) (fun _ _ _ => ?_)
    | refine zPr.bc (S' := sX10_refuse) (by assumption) (mX10_refuse ..) (fun p hp => by simp only [sX10_refuse, sX10_drive, List.mem_cons, List.not_mem_nil, or_false] at hp ⊢ <;> omega) (fun _ _ _ => ?_)
    | refine zPr.bnr (fun _ => ?_)
    | refine zPr.bnv (fun _ => ?_)
    | exact zPr.tail (S' := sX10_drive) (by assumption) (mX10_drive_24 ..) (fun _ h => h)
    | exact zPr.tail (S' := sX10_drive) (by assumption) (mX10_drive_38 ..) (fun _ h => h)
def sX10_pause (t : Bool × Bool × Bool) : List Nat := [27, 5, 6, 7]
theorem mX10_pause_16 : ∀ (fuel : Nat) (c1 : Bool) (x2 : Int32) (x3 : Int32) (σ : zS), zPr (sX10_pause σ.2.2) σ Prod.snd (fX10_pause_16 fuel c1 x2 x3 σ) := by
  intro fuel
  induction fuel with
  | zero => intro c1 x2 x3 σ; exact zPr.none
  | succ f ih =>
    intro c1 x2 x3 σ
    rw [fX10_pause_16]
    have hc := zSm.rfl (sX10_pause σ.2.2) σ
    repeat' first
      | exact zPr.none
      | exact zPr.some (by assumption)
      | refine zPr.ite ?_ ?_
      | refine zPr.wI (by assumption) (by simp only [sX10_pause, List.mem_cons, List.not_mem_nil, or_false]; omega) (fun _ _ => ?_)
      | refine zPr.wL (by assumption) (by simp only [sX10_pause, List.mem_cons, List.not_mem_nil, or_false]; omega) (fun _ _ => ?_)
      | refine zPr.bI (by assumption) (by simp only [sX10_pause, List.mem_cons, List.not_mem_nil, or_false]; omega) (fun _ _ => ?_)
      | refine zPr.bL (by assumption) (by simp only [sX10_pause, List.mem_cons, List.not_mem_nil, or_false]; omega) (fun _ _ => ?_)
      | refine zPr.wC (by assumption) (by simp only [sX10_pause, List.mem_cons, List.not_mem_nil, or_false]; omega) (fun _ _ => ?_)
      | refine zPr.aI (fun _ => ?_)
      | refine zPr.aL (fun _ => ?_)
      | refine zPr.gd ?_
      | refine zPr.bw (S' := sX10_beginAct) (by assumption) (mX10_beginAct ..) (fun p hp => by simp only [sX10_beginAct, sX10_pause, List.mem_cons, List.not_mem_nil, or_false] at hp ⊢ <;> omega) (fun _ _ => ?_)
      | refine zPr.bw (S' := sX7_setBreath) (by assumption) (mX7_setBreath ..) (fun p hp => by simp only [sX7_setBreath, sX10_pause, List.mem_cons, List.not_mem_nil, or_false] at hp ⊢ <;> omega) (fun _ _ => ?_)
      | refine zPr.bnr (fun _ => ?_)
      | refine zPr.bnv (fun _ => ?_)
      | exact zPr.tail (S' := sX10_pause) (by assumption) (ih ..) (fun _ h => h)
theorem mX10_pause (σ : zS) : zPr (sX10_pause σ.2.2) σ Prod.snd (fX10_pause σ) := by
  unfold fX10_pause
  have hc := zSm.rfl (sX10_pause σ.2.2) σ
  repeat' first
    | exact zPr.none
    | exact zPr.some (by assumption)
    | refine zPr.ite ?_ ?_
    | refine zPr.wI (by assumption) (by simp only [sX10_pause, List.mem_cons, List.not_mem_nil, or_false]; omega) (fun _ _ => ?_)
    | refine zPr.wL (by assumption) (by simp only [sX10_pause, List.mem_cons, List.not_mem_nil, or_false]; omega) (fun _ _ => ?_)
    | refine zPr.bI (by assumption) (by simp only [sX10_pause, List.mem_cons, List.not_mem_nil, or_false]; omega) (fun _ _ => ?_)
    | refine zPr.bL (by assumption) (by simp only [sX10_pause, List.mem_cons, List.not_mem_nil, or_false]; omega) (fun _ _ => ?_)
    | refine zPr.wC (by assumption) (by simp only [sX10_pause, List.mem_cons, List.not_mem_nil, or_false]; omega) (fun _ _ => ?_)
    | refine zPr.aI (fun _ => ?_)
    | refine zPr.aL (fun _ => ?_)
    | refine zPr.gd ?_
    | refine zPr.bw (S' := sX10_beginAct) (by assumption) (mX10_beginAct ..) (fun p hp => by simp only [sX10_beginAct, sX10_pause, List.mem_cons, List.not_mem_nil, or_false] at hp ⊢ <;> omega) (fun _ _ => ?_)
    | refine zPr.bw (S' := sX7_setBreath) (by assumption) (mX7_setBreath ..) (fun p hp => by simp only [sX7_setBreath, sX10_pause, List.mem_cons, List.not_mem_nil, or_false] at hp ⊢ <;> omega) (fun _ _ => ?_)
    | refine zPr.bnr (fun _ => ?_)
    | refine zPr.bnv (fun _ => ?_)
    | exact zPr.tail (S' := sX10_pause) (by assumption) (mX10_pause_16 ..) (fun _ h => h)
def sX7_setThinks (t : Bool × Bool × Bool) : List Nat := [5]
theorem mX7_setThinks (p1 : Int32) (p2 : Int32) (p3 : Int32) (σ : zS) : zPr (sX7_setThinks σ.2.2) σ id (fX7_setThinks p1 p2 p3 σ) := by
  unfold fX7_setThinks
  have hc := zSm.rfl (sX7_setThinks σ.2.2) σ
  repeat' first
    | exact zPr.none
    | exact zPr.some (by assumption)
    | refine zPr.ite ?_ ?_
    | refine zPr.wI (by assumption) (by simp only [sX7_setThinks, List.mem_cons, List.not_mem_nil, or_false]; omega) (fun _ _ => ?_)
    | refine zPr.wL (by assumption) (by simp only [sX7_setThinks, List.mem_cons, List.not_mem_nil, or_false]; omega) (fun _ _ => ?_)
    | refine zPr.bI (by assumption) (by simp only [sX7_setThinks, List.mem_cons, List.not_mem_nil, or_false]; omega) (fun _ _ => ?_)
    | refine zPr.bL (by assumption) (by simp only [sX7_setThinks, List.mem_cons, List.not_mem_nil, or_false]; omega) (fun _ _ => ?_)
    | refine zPr.wC (by assumption) (by simp only [sX7_setThinks, List.mem_cons, List.not_mem_nil, or_false]; omega) (fun _ _ => ?_)
    | refine zPr.aI (fun _ => ?_)
    | refine zPr.aL (fun _ => ?_)
    | refine zPr.gd ?_
    | refine zPr.bnr (fun _ => ?_)
    | refine zPr.bnv (fun _ => ?_)
def sX10_believe (t : Bool × Bool × Bool) : List Nat := [27, 37, 5, 6, 7]
theorem mX10_believe_22 (σ : zS) : zPr (sX10_believe σ.2.2) σ Prod.snd (fX10_believe_22 σ) := by
  unfold fX10_believe_22
  have hc := zSm.rfl (sX10_believe σ.2.2) σ
  repeat' first
    | exact zPr.none
    | exact zPr.some (by assumption)
    | refine zPr.ite ?_ ?_
    | refine zPr.wI (by assumption) (by simp only [sX10_believe, List.mem_cons, List.not_mem_nil, or_false]; omega) (fun _ _ => ?_)
    | refine zPr.wL (by assumption) (by simp only [sX10_believe, List.mem_cons, List.not_mem_nil, or_false]; omega) (fun _ _ => ?_)
    | refine zPr.bI (by assumption) (by simp only [sX10_believe, List.mem_cons, List.not_mem_nil, or_false]; omega) (fun _ _ => ?_)
    | refine zPr.bL (by assumption) (by simp only [sX10_believe, List.mem_cons, List.not_mem_nil, or_false]; omega) (fun _ _ => ?_)
    | refine zPr.wC (by assumption) (by simp only [sX10_believe, List.mem_cons, List.not_mem_nil, or_false]; omega) (fun _ _ => ?_)
    | refine zPr.aI (fun _ => ?_)
    | refine zPr.aL (fun _ => ?_)
    | refine zPr.gd ?_
    | refine zPr.bw (S' := sX10_beginAct) (by assumption) (mX10_beginAct ..) (fun p hp => by simp only [sX10_beginAct, sX10_believe, List.mem_cons, List.not_mem_nil, or_false] at hp ⊢ <;> omega) (fun _ _ => ?_)
    | refine zPr.bc (S' := sX10_refuse) (by assumption) (mX10_refuse ..) (fun p hp => by simp only [sX10_refuse, sX10_believe, List.mem_cons, List.not_mem_nil, or_false] at hp ⊢ <;> omega) (fun _ _ _ => ?_)
    | refine zPr.bw (S' := sX7_setThinks) (by assumption) (mX7_setThinks ..) (fun p hp => by simp only [sX7_setThinks, sX10_believe, List.mem_cons, List.not_mem_nil, or_false] at hp ⊢ <;> omega) (fun _ _ => ?_)
    | refine zPr.bnr (fun _ => ?_)
    | refine zPr.bnv (fun _ => ?_)
theorem mX10_believe (p1 : Int32) (p2 : Int32) (p3 : Int32) (σ : zS) : zPr (sX10_believe σ.2.2) σ Prod.snd (fX10_believe p1 p2 p3 σ) := by
  unfold fX10_believe
  have hc := zSm.rfl (sX10_believe σ.2.2) σ
  repeat' first
    | exact zPr.none
    | exact zPr.some (by assumption)
    | refine zPr.ite ?_ ?_
    | refine zPr.wI (by assumption) (by simp only [sX10_believe, List.mem_cons, List.not_mem_nil, or_false]; omega) (fun _ _ => ?_)
    | refine zPr.wL (by assumption) (by simp only [sX10_believe, List.mem_cons, List.not_mem_nil, or_false]; omega) (fun _ _ => ?_)
    | refine zPr.bI (by assumption) (by simp only [sX10_believe, List.mem_cons, List.not_mem_nil, or_false]; omega) (fun _ _ => ?_)
    | refine zPr.bL (by assumption) (by simp only [sX10_believe, List.mem_cons, List.not_mem_nil, or_false]; omega) (fun _ _ => ?_)
    | refine zPr.wC (by assumption) (by simp only [sX10_believe, List.mem_cons, List.not_mem_nil, or_false]; omega) (fun _ _ => ?_)
    | refine zPr.aI (fun _ => ?_)
    | refine zPr.aL (fun _ => ?_)
    | refine zPr.gd ?_
    | refine zPr.bw (S' := sX10_beginAct) (by assumption) (mX10_beginAct ..) (fun p hp => by simp only [sX10_beginAct, sX10_believe, List.mem_cons, List.not_mem_nil, or_false] at hp ⊢ <;> omega) (fun _ _ => ?_)
    | refine zPr.bc (S' := sX10_refuse) (by assumption) (mX10_refuse ..) (fun p hp => by simp only [sX10_refuse, sX10_believe, List.mem_cons, List.not_mem_nil, or_false] at hp ⊢ <;> omega) (fun _ _ _ => ?_)
    | refine zPr.bw (S' := sX7_setThinks) (by assumption) (mX7_setThinks ..) (fun p hp => by simp only [sX7_setThinks, sX10_believe, List.mem_cons, List.not_mem_nil, or_false] at hp ⊢ <;> omega) (fun _ _ => ?_)
    | refine zPr.bnr (fun _ => ?_)
    | refine zPr.bnv (fun _ => ?_)
    | exact zPr.tail (S' := sX10_believe) (by assumption) (mX10_believe_22 ..) (fun _ h => h)
def sX7_setGives (t : Bool × Bool × Bool) : List Nat := [5]
theorem mX7_setGives (p1 : Int32) (p2 : Int32) (σ : zS) : zPr (sX7_setGives σ.2.2) σ id (fX7_setGives p1 p2 σ) := by
  unfold fX7_setGives
  have hc := zSm.rfl (sX7_setGives σ.2.2) σ
  repeat' first
    | exact zPr.none
    | exact zPr.some (by assumption)
    | refine zPr.ite ?_ ?_
    | refine zPr.wI (by assumption) (by simp only [sX7_setGives, List.mem_cons, List.not_mem_nil, or_false]; omega) (fun _ _ => ?_)
    | refine zPr.wL (by assumption) (by simp only [sX7_setGives, List.mem_cons, List.not_mem_nil, or_false]; omega) (fun _ _ => ?_)
    | refine zPr.bI (by assumption) (by simp only [sX7_setGives, List.mem_cons, List.not_mem_nil, or_false]; omega) (fun _ _ => ?_)
    | refine zPr.bL (by assumption) (by simp only [sX7_setGives, List.mem_cons, List.not_mem_nil, or_false]; omega) (fun _ _ => ?_)
    | refine zPr.wC (by assumption) (by simp only [sX7_setGives, List.mem_cons, List.not_mem_nil, or_false]; omega) (fun _ _ => ?_)
    | refine zPr.aI (fun _ => ?_)
    | refine zPr.aL (fun _ => ?_)
    | refine zPr.gd ?_
    | refine zPr.bnr (fun _ => ?_)
    | refine zPr.bnv (fun _ => ?_)
def sX10_give (t : Bool × Bool × Bool) : List Nat := [27, 37, 5, 6, 7]
theorem mX10_give_21 (σ : zS) : zPr (sX10_give σ.2.2) σ Prod.snd (fX10_give_21 σ) := by
  unfold fX10_give_21
  have hc := zSm.rfl (sX10_give σ.2.2) σ
  repeat' first
    | exact zPr.none
    | exact zPr.some (by assumption)
    | refine zPr.ite ?_ ?_
    | refine zPr.wI (by assumption) (by simp only [sX10_give, List.mem_cons, List.not_mem_nil, or_false]; omega) (fun _ _ => ?_)
    | refine zPr.wL (by assumption) (by simp only [sX10_give, List.mem_cons, List.not_mem_nil, or_false]; omega) (fun _ _ => ?_)
    | refine zPr.bI (by assumption) (by simp only [sX10_give, List.mem_cons, List.not_mem_nil, or_false]; omega) (fun _ _ => ?_)
    | refine zPr.bL (by assumption) (by simp only [sX10_give, List.mem_cons, List.not_mem_nil, or_false]; omega) (fun _ _ => ?_)
    | refine zPr.wC (by assumption) (by simp only [sX10_give, List.mem_cons, List.not_mem_nil, or_false]; omega) (fun _ _ => ?_)
    | refine zPr.aI (fun _ => ?_)
    | refine zPr.aL (fun _ => ?_)
    | refine zPr.gd ?_
    | refine zPr.bw (S' := sX10_beginAct) (by assumption) (mX10_beginAct ..) (fun p hp => by simp only [sX10_beginAct, sX10_give, List.mem_cons, List.not_mem_nil, or_false] at hp ⊢ <;> omega) (fun _ _ => ?_)
    | refine zPr.bc (S' := sX10_refuse) (by assumption) (mX10_refuse ..) (fun p hp => by simp only [sX10_refuse, sX10_give, List.mem_cons, List.not_mem_nil, or_false] at hp ⊢ <;> omega) (fun _ _ _ => ?_)
    | refine zPr.bw (S' := sX7_setGives) (by assumption) (mX7_setGives ..) (fun p hp => by simp only [sX7_setGives, sX10_give, List.mem_cons, List.not_mem_nil, or_false] at hp ⊢ <;> omega) (fun _ _ => ?_)
    | refine zPr.bnr (fun _ => ?_)
    | refine zPr.bnv (fun _ => ?_)
theorem mX10_give (p1 : Int32) (p2 : Int32) (σ : zS) : zPr (sX10_give σ.2.2) σ Prod.snd (fX10_give p1 p2 σ) := by
  unfold fX10_give
  have hc := zSm.rfl (sX10_give σ.2.2) σ
  repeat' first
    | exact zPr.none
    | exact zPr.some (by assumption)
    | refine zPr.ite ?_ ?_
    | refine zPr.wI (by assumption) (by simp only [sX10_give, List.mem_cons, List.not_mem_nil, or_false]; omega) (fun _ _ => ?_)
    | refine zPr.wL (by assumption) (by simp only [sX10_give, List.mem_cons, List.not_mem_nil, or_false]; omega) (fun _ _ => ?_)
    | refine zPr.bI (by assumption) (by simp only [sX10_give, List.mem_cons, List.not_mem_nil, or_false]; omega) (fun _ _ => ?_)
    | refine zPr.bL (by assumption) (by simp only [sX10_give, List.mem_cons, List.not_mem_nil, or_false]; omega) (fun _ _ => ?_)
    | refine zPr.wC (by assumption) (by simp only [sX10_give, List.mem_cons, List.not_mem_nil, or_false]; omega) (fun _ _ => ?_)
    | refine zPr.aI (fun _ => ?_)
    | refine zPr.aL (fun _ => ?_)
    | refine zPr.gd ?_
    | refine zPr.bw (S' := sX10_beginAct) (by assumption) (mX10_beginAct ..) (fun p hp => by simp only [sX10_beginAct, sX10_give, List.mem_cons, List.not_mem_nil, or_false] at hp ⊢ <;> omega) (fun _ _ => ?_)
    | refine zPr.bc (S' := sX10_refuse) (by assumption) (mX10_refuse ..) (fun p hp => by simp only [sX10_refuse, sX10_give, List.mem_cons, List.not_mem_nil, or_false] at hp ⊢ <;> omega) (fun _ _ _ => ?_)
    | refine zPr.bw (S' := sX7_setGives) (by assumption) (mX7_setGives ..) (fun p hp => by simp only [sX7_setGives, sX10_give, List.mem_cons, List.not_mem_nil, or_false] at hp ⊢ <;> omega) (fun _ _ => ?_)
    | refine zPr.bnr (fun _ => ?_)
    | refine zPr.bnv (fun _ => ?_)
    | exact zPr.tail (S' := sX10_give) (by assumption) (mX10_give_21 ..) (fun _ h => h)
def sX2_takeBack (t : Bool × Bool × Bool) : List Nat := [5, 6]
theorem mX2_takeBack (σ : zS) : zPr (sX2_takeBack σ.2.2) σ id (fX2_takeBack σ) := by
  unfold fX2_takeBack
  have hc := zSm.rfl (sX2_takeBack σ.2.2) σ
  repeat' first
    | exact zPr.none
    | exact zPr.some (by assumption)
    | refine zPr.ite ?_ ?_
    | refine zPr.wI (by assumption) (by simp only [sX2_takeBack, List.mem_cons, List.not_mem_nil, or_false]; omega) (fun _ _ => ?_)
    | refine zPr.wL (by assumption) (by simp only [sX2_takeBack, List.mem_cons, List.not_mem_nil, or_false]; omega) (fun _ _ => ?_)
    | refine zPr.bI (by assumption) (by simp only [sX2_takeBack, List.mem_cons, List.not_mem_nil, or_false]; omega) (fun _ _ => ?_)
    | refine zPr.bL (by assumption) (by simp only [sX2_takeBack, List.mem_cons, List.not_mem_nil, or_false]; omega) (fun _ _ => ?_)
    | refine zPr.wC (by assumption) (by simp only [sX2_takeBack, List.mem_cons, List.not_mem_nil, or_false]; omega) (fun _ _ => ?_)
    | refine zPr.aI (fun _ => ?_)
    | refine zPr.aL (fun _ => ?_)
    | refine zPr.gd ?_
    | refine zPr.bnr (fun _ => ?_)
    | refine zPr.bnv (fun _ => ?_)
def sX10_undo (t : Bool × Bool × Bool) : List Nat := [27, 37, 5, 6]
theorem mX10_undo (σ : zS) : zPr (sX10_undo σ.2.2) σ Prod.snd (fX10_undo σ) := by
  unfold fX10_undo
  have hc := zSm.rfl (sX10_undo σ.2.2) σ
  repeat' first
    | exact zPr.none
    | exact zPr.some (by assumption)
    | refine zPr.ite ?_ ?_
    | refine zPr.wI (by assumption) (by simp only [sX10_undo, List.mem_cons, List.not_mem_nil, or_false]; omega) (fun _ _ => ?_)
    | refine zPr.wL (by assumption) (by simp only [sX10_undo, List.mem_cons, List.not_mem_nil, or_false]; omega) (fun _ _ => ?_)
    | refine zPr.bI (by assumption) (by simp only [sX10_undo, List.mem_cons, List.not_mem_nil, or_false]; omega) (fun _ _ => ?_)
    | refine zPr.bL (by assumption) (by simp only [sX10_undo, List.mem_cons, List.not_mem_nil, or_false]; omega) (fun _ _ => ?_)
    | refine zPr.wC (by assumption) (by simp only [sX10_undo, List.mem_cons, List.not_mem_nil, or_false]; omega) (fun _ _ => ?_)
    | refine zPr.aI (fun _ => ?_)
    | refine zPr.aL (fun _ => ?_)
    | refine zPr.gd ?_
    | refine zPr.bw (S' := sX0_forget) (by assumption) (mX0_forget ..) (fun p hp => by simp only [sX0_forget, sX10_undo, List.mem_cons, List.not_mem_nil, or_false] at hp ⊢ <;> omega) (fun _ _ => ?_)
    | refine zPr.bc (S' := sX10_refuse) (by assumption) (mX10_refuse ..) (fun p hp => by simp only [sX10_refuse, sX10_undo, List.mem_cons, List.not_mem_nil, or_false] at hp ⊢ <;> omega) (fun _ _ _ => ?_)
    | refine zPr.bw (S' := sX2_takeBack) (by assumption) (mX2_takeBack ..) (fun p hp => by simp only [sX2_takeBack, sX10_undo, List.mem_cons, List.not_mem_nil, or_false] at hp ⊢ <;> omega) (fun _ _ => ?_)
    | refine zPr.bnr (fun _ => ?_)
    | refine zPr.bnv (fun _ => ?_)
def sX10_seed (t : Bool × Bool × Bool) : List Nat := [1, 37]
theorem mX10_seed (p1 : Int32) (σ : zS) : zPr (sX10_seed σ.2.2) σ Prod.snd (fX10_seed p1 σ) := by
  unfold fX10_seed
  have hc := zSm.rfl (sX10_seed σ.2.2) σ
  repeat' first
    | exact zPr.none
    | exact zPr.some (by assumption)
    | refine zPr.ite ?_ ?_
    | refine zPr.wI (by assumption) (by simp only [sX10_seed, List.mem_cons, List.not_mem_nil, or_false]; omega) (fun _ _ => ?_)
    | refine zPr.wL (by assumption) (by simp only [sX10_seed, List.mem_cons, List.not_mem_nil, or_false]; omega) (fun _ _ => ?_)
    | refine zPr.bI (by assumption) (by simp only [sX10_seed, List.mem_cons, List.not_mem_nil, or_false]; omega) (fun _ _ => ?_)
    | refine zPr.bL (by assumption) (by simp only [sX10_seed, List.mem_cons, List.not_mem_nil, or_false]; omega) (fun _ _ => ?_)
    | refine zPr.wC (by assumption) (by simp only [sX10_seed, List.mem_cons, List.not_mem_nil, or_false]; omega) (fun _ _ => ?_)
    | refine zPr.aI (fun _ => ?_)
    | refine zPr.aL (fun _ => ?_)
    | refine zPr.gd ?_
    | refine zPr.bc (S' := sX10_refuse) (by assumption) (mX10_refuse ..) (fun p hp => by simp only [sX10_refuse, sX10_seed, List.mem_cons, List.not_mem_nil, or_false] at hp ⊢ <;> omega) (fun _ _ _ => ?_)
    | refine zPr.bnr (fun _ => ?_)
    | refine zPr.bnv (fun _ => ?_)
def sX3_addByte (t : Bool × Bool × Bool) : List Nat := [35, 36]
theorem mX3_addByte (p1 : Int32) (σ : zS) : zPr (sX3_addByte σ.2.2) σ id (fX3_addByte p1 σ) := by
  unfold fX3_addByte
  have hc := zSm.rfl (sX3_addByte σ.2.2) σ
  repeat' first
    | exact zPr.none
    | exact zPr.some (by assumption)
    | refine zPr.ite ?_ ?_
    | refine zPr.wI (by assumption) (by simp only [sX3_addByte, List.mem_cons, List.not_mem_nil, or_false]; omega) (fun _ _ => ?_)
    | refine zPr.wL (by assumption) (by simp only [sX3_addByte, List.mem_cons, List.not_mem_nil, or_false]; omega) (fun _ _ => ?_)
    | refine zPr.bI (by assumption) (by simp only [sX3_addByte, List.mem_cons, List.not_mem_nil, or_false]; omega) (fun _ _ => ?_)
    | refine zPr.bL (by assumption) (by simp only [sX3_addByte, List.mem_cons, List.not_mem_nil, or_false]; omega) (fun _ _ => ?_)
    | refine zPr.wC (by assumption) (by simp only [sX3_addByte, List.mem_cons, List.not_mem_nil, or_false]; omega) (fun _ _ => ?_)
    | refine zPr.aI (fun _ => ?_)
    | refine zPr.aL (fun _ => ?_)
    | refine zPr.gd ?_
    | refine zPr.bnr (fun _ => ?_)
    | refine zPr.bnv (fun _ => ?_)
def sX3_write (b2 : Bool) (t : Bool × Bool × Bool) : List Nat := [35, 36]
theorem mX3_write_124 (b2 : Bool) : ∀ (fuel : Nat) (x3 : Int32) (x4 : Int32) (σ : zS), zPr (sX3_write b2 σ.2.2) σ id (fX3_write_124 b2 fuel x3 x4 σ) := by
  intro fuel
  induction fuel with
  | zero => intro x3 x4 σ; exact zPr.none
  | succ f ih =>
    intro x3 x4 σ
    rw [fX3_write_124]
    have hc := zSm.rfl (sX3_write b2 σ.2.2) σ
    repeat' first
      | exact zPr.none
      | exact zPr.some (by assumption)
      | refine zPr.ite ?_ ?_
      | refine zPr.wI (by assumption) (by simp only [sX3_write, List.mem_cons, List.not_mem_nil, or_false]; omega) (fun _ _ => ?_)
      | refine zPr.wL (by assumption) (by simp only [sX3_write, List.mem_cons, List.not_mem_nil, or_false]; omega) (fun _ _ => ?_)
      | refine zPr.bI (by assumption) (by simp only [sX3_write, List.mem_cons, List.not_mem_nil, or_false]; omega) (fun _ _ => ?_)
      | refine zPr.bL (by assumption) (by simp only [sX3_write, List.mem_cons, List.not_mem_nil, or_false]; omega) (fun _ _ => ?_)
      | refine zPr.wC (by assumption) (by simp only [sX3_write, List.mem_cons, List.not_mem_nil, or_false]; omega) (fun _ _ => ?_)
      | refine zPr.aI (fun _ => ?_)
      | refine zPr.aL (fun _ => ?_)
      | refine zPr.gd ?_
      | refine zPr.bw (S' := sX3_addByte) (by assumption) (mX3_addByte ..) (fun p hp => by simp only [sX3_addByte, sX3_write, List.mem_cons, List.not_mem_nil, or_false] at hp ⊢ <;> omega) (fun _ _ => ?_)
      | refine zPr.bnr (fun _ => ?_)
      | refine zPr.bnv (fun _ => ?_)
      | exact zPr.tail (S' := sX3_write b2) (by assumption) (ih ..) (fun _ h => h)
theorem mX3_write_86 (b2 : Bool) (r15 : Int32 → zS → Option zS) (hr15 : ∀ (x0 : Int32) (σ : zS), zPr (sX3_write b2 σ.2.2) σ id (r15 x0 σ)) : ∀ (fuel : Nat) (x3 : Int32) (x5 : Int32) (σ : zS), zPr (sX3_write b2 σ.2.2) σ id (fX3_write_86 b2 r15 fuel x3 x5 σ) := by
  intro fuel
  induction fuel with
  | zero => intro x3 x5 σ; exact zPr.none
  | succ f ih =>
    intro x3 x5 σ
    rw [fX3_write_86]
    have hc := zSm.rfl (sX3_write b2 σ.2.2) σ
    repeat' first
      | exact zPr.none
      | exact zPr.some (by assumption)
      | refine zPr.ite ?_ ?_
      | refine zPr.wI (by assumption) (by simp only [sX3_write, List.mem_cons, List.not_mem_nil, or_false]; omega) (fun _ _ => ?_)
      | refine zPr.wL (by assumption) (by simp only [sX3_write, List.mem_cons, List.not_mem_nil, or_false]; omega) (fun _ _ => ?_)
      | refine zPr.bI (by assumption) (by simp only [sX3_write, List.mem_cons, List.not_mem_nil, or_false]; omega) (fun _ _ => ?_)
      | refine zPr.bL (by assumption) (by simp only [sX3_write, List.mem_cons, List.not_mem_nil, or_false]; omega) (fun _ _ => ?_)
      | refine zPr.wC (by assumption) (by simp only [sX3_write, List.mem_cons, List.not_mem_nil, or_false]; omega) (fun _ _ => ?_)
      | refine zPr.aI (fun _ => ?_)
      | refine zPr.aL (fun _ => ?_)
      | refine zPr.gd ?_
      | refine zPr.bw (S' := sX3_addByte) (by assumption) (mX3_addByte ..) (fun p hp => by simp only [sX3_addByte, sX3_write, List.mem_cons, List.not_mem_nil, or_false] at hp ⊢ <;> omega) (fun _ _ => ?_)
      | refine zPr.bnr (fun _ => ?_)
      | refine zPr.bnv (fun _ => ?_)
      | exact zPr.tail (S' := sX3_write b2) (by assumption) (ih ..) (fun _ h => h)
      | exact zPr.tail (S' := sX3_write b2) (by assumption) (hr15 ..) (fun _ h => h)
      | exact zPr.tail (S' := sX3_write b2) (by assumption) (mX3_write_124 _ ..) (fun _ h => h)
theorem mX3_write_15 (b2 : Bool) : ∀ (fuel : Nat) (x3 : Int32) (σ : zS), zPr (sX3_write b2 σ.2.2) σ id (fX3_write_15 b2 fuel x3 σ) := by
  intro fuel
  induction fuel with
  | zero => intro x3 σ; exact zPr.none
  | succ f ih =>
    intro x3 σ
    rw [fX3_write_15]
    have hc := zSm.rfl (sX3_write b2 σ.2.2) σ
    repeat' first
      | exact zPr.none
      | exact zPr.some (by assumption)
      | refine zPr.ite ?_ ?_
      | refine zPr.wI (by assumption) (by simp only [sX3_write, List.mem_cons, List.not_mem_nil, or_false]; omega) (fun _ _ => ?_)
      | refine zPr.wL (by assumption) (by simp only [sX3_write, List.mem_cons, List.not_mem_nil, or_false]; omega) (fun _ _ => ?_)
      | refine zPr.bI (by assumption) (by simp only [sX3_write, List.mem_cons, List.not_mem_nil, or_false]; omega) (fun _ _ => ?_)
      | refine zPr.bL (by assumption) (by simp only [sX3_write, List.mem_cons, List.not_mem_nil, or_false]; omega) (fun _ _ => ?_)
      | refine zPr.wC (by assumption) (by simp only [sX3_write, List.mem_cons, List.not_mem_nil, or_false]; omega) (fun _ _ => ?_)
      | refine zPr.aI (fun _ => ?_)
      | refine zPr.aL (fun _ => ?_)
      | refine zPr.gd ?_
      | refine zPr.bw (S' := sX3_addByte) (by assumption) (mX3_addByte ..) (fun p hp => by simp only [sX3_addByte, sX3_write, List.mem_cons, List.not_mem_nil, or_false] at hp ⊢ <;> omega) (fun _ _ => ?_)
      | refine zPr.bnr (fun _ => ?_)
      | refine zPr.bnv (fun _ => ?_)
      | exact zPr.tail (S' := sX3_write b2) (by assumption) (ih ..) (fun _ h => h)
      | exact zPr.tail (S' := sX3_write b2) (by assumption) (mX3_write_124 _ ..) (fun _ h => h)
      | exact zPr.tail (S' := sX3_write b2) (by assumption) (mX3_write_86 _ _ (by first | assumption | exact ih | (intros; apply ih) | (intros; apply mX3_write_15)) ..) (fun _ h => h)
theorem mX3_write (b2 : Bool) (σ : zS) : zPr (sX3_write b2 σ.2.2) σ id (fX3_write b2 σ) := by
  unfold fX3_write
  have hc := zSm.rfl (sX3_write b2 σ.2.2) σ
  repeat' first
    | exact zPr.none
    | exact zPr.some (by assumption)
    | refine zPr.ite ?_ ?_
    | refine zPr.wI (by assumption) (by simp only [sX3_write, List.mem_cons, List.not_mem_nil, or_false]; omega) (fun _ _ => ?_)
    | refine zPr.wL (by assumption) (by simp only [sX3_write, List.mem_cons, List.not_mem_nil, or_false]; omega) (fun _ _ => ?_)
    | refine zPr.bI (by assumption) (by simp only [sX3_write, List.mem_cons, List.not_mem_nil, or_false]; omega) (fun _ _ => ?_)
    | refine zPr.bL (by assumption) (by simp only [sX3_write, List.mem_cons, List.not_mem_nil, or_false]; omega) (fun _ _ => ?_)
    | refine zPr.wC (by assumption) (by simp only [sX3_write, List.mem_cons, List.not_mem_nil, or_false]; omega) (fun _ _ => ?_)
    | refine zPr.aI (fun _ => ?_)
    | refine zPr.aL (fun _ => ?_)
    | refine zPr.gd ?_
    | refine zPr.bw (S' := sX3_addByte) (by assumption) (mX3_addByte ..) (fun p hp => by simp only [sX3_addByte, sX3_write, List.mem_cons, List.not_mem_nil, or_false] at hp ⊢ <;> omega) (fun _ _ => ?_)
    | refine zPr.bnr (fun _ => ?_)
    | refine zPr.bnv (fun _ => ?_)
    | exact zPr.tail (S' := sX3_write b2) (by assumption) (mX3_write_124 _ ..) (fun _ h => h)
    | exact zPr.tail (S' := sX3_write b2) (by assumption) (mX3_write_86 _ _ (by first | assumption | exact ih | (intros; apply ih) | (intros; apply mX3_write_15)) ..) (fun _ h => h)
    | exact zPr.tail (S' := sX3_write b2) (by assumption) (mX3_write_15 _ ..) (fun _ h => h)
def sX10_image (t : Bool × Bool × Bool) : List Nat := [35, 36]
theorem mX10_image (σ : zS) : zPr (sX10_image σ.2.2) σ Prod.snd (fX10_image σ) := by
  unfold fX10_image
  have hc := zSm.rfl (sX10_image σ.2.2) σ
  repeat' first
    | exact zPr.none
    | exact zPr.some (by assumption)
    | refine zPr.ite ?_ ?_
    | refine zPr.wI (by assumption) (by simp only [sX10_image, List.mem_cons, List.not_mem_nil, or_false]; omega) (fun _ _ => ?_)
    | refine zPr.wL (by assumption) (by simp only [sX10_image, List.mem_cons, List.not_mem_nil, or_false]; omega) (fun _ _ => ?_)
    | refine zPr.bI (by assumption) (by simp only [sX10_image, List.mem_cons, List.not_mem_nil, or_false]; omega) (fun _ _ => ?_)
    | refine zPr.bL (by assumption) (by simp only [sX10_image, List.mem_cons, List.not_mem_nil, or_false]; omega) (fun _ _ => ?_)
    | refine zPr.wC (by assumption) (by simp only [sX10_image, List.mem_cons, List.not_mem_nil, or_false]; omega) (fun _ _ => ?_)
    | refine zPr.aI (fun _ => ?_)
    | refine zPr.aL (fun _ => ?_)
    | refine zPr.gd ?_
    | refine zPr.bw (S' := sX3_write _) (by assumption) (mX3_write ..) (fun p hp => by simp only [sX3_write, sX10_image, List.mem_cons, List.not_mem_nil, or_false] at hp ⊢ <;> omega) (fun _ _ => ?_)
    | refine zPr.bnr (fun _ => ?_)
    | refine zPr.bnv (fun _ => ?_)
def sX7_keepNothing (t : Bool × Bool × Bool) : List Nat := [5]
theorem mX7_keepNothing (σ : zS) : zPr (sX7_keepNothing σ.2.2) σ id (fX7_keepNothing σ) := by
  unfold fX7_keepNothing
  have hc := zSm.rfl (sX7_keepNothing σ.2.2) σ
  repeat' first
    | exact zPr.none
    | exact zPr.some (by assumption)
    | refine zPr.ite ?_ ?_
    | refine zPr.wI (by assumption) (by simp only [sX7_keepNothing, List.mem_cons, List.not_mem_nil, or_false]; omega) (fun _ _ => ?_)
    | refine zPr.wL (by assumption) (by simp only [sX7_keepNothing, List.mem_cons, List.not_mem_nil, or_false]; omega) (fun _ _ => ?_)
    | refine zPr.bI (by assumption) (by simp only [sX7_keepNothing, List.mem_cons, List.not_mem_nil, or_false]; omega) (fun _ _ => ?_)
    | refine zPr.bL (by assumption) (by simp only [sX7_keepNothing, List.mem_cons, List.not_mem_nil, or_false]; omega) (fun _ _ => ?_)
    | refine zPr.wC (by assumption) (by simp only [sX7_keepNothing, List.mem_cons, List.not_mem_nil, or_false]; omega) (fun _ _ => ?_)
    | refine zPr.aI (fun _ => ?_)
    | refine zPr.aL (fun _ => ?_)
    | refine zPr.gd ?_
    | refine zPr.bnr (fun _ => ?_)
    | refine zPr.bnv (fun _ => ?_)
def sX7_setScore (t : Bool × Bool × Bool) : List Nat := [5]
theorem mX7_setScore (p1 : Int32) (p2 : Int32) (σ : zS) : zPr (sX7_setScore σ.2.2) σ id (fX7_setScore p1 p2 σ) := by
  unfold fX7_setScore
  have hc := zSm.rfl (sX7_setScore σ.2.2) σ
  repeat' first
    | exact zPr.none
    | exact zPr.some (by assumption)
    | refine zPr.ite ?_ ?_
    | refine zPr.wI (by assumption) (by simp only [sX7_setScore, List.mem_cons, List.not_mem_nil, or_false]; omega) (fun _ _ => ?_)
    | refine zPr.wL (by assumption) (by simp only [sX7_setScore, List.mem_cons, List.not_mem_nil, or_false]; omega) (fun _ _ => ?_)
    | refine zPr.bI (by assumption) (by simp only [sX7_setScore, List.mem_cons, List.not_mem_nil, or_false]; omega) (fun _ _ => ?_)
    | refine zPr.bL (by assumption) (by simp only [sX7_setScore, List.mem_cons, List.not_mem_nil, or_false]; omega) (fun _ _ => ?_)
    | refine zPr.wC (by assumption) (by simp only [sX7_setScore, List.mem_cons, List.not_mem_nil, or_false]; omega) (fun _ _ => ?_)
    | refine zPr.aI (fun _ => ?_)
    | refine zPr.aL (fun _ => ?_)
    | refine zPr.gd ?_
    | refine zPr.bnr (fun _ => ?_)
    | refine zPr.bnv (fun _ => ?_)
def sX3_putInto (b1 : Bool) (t : Bool × Bool × Bool) : List Nat := [5]
theorem mX3_putInto_73 (b1 : Bool) (r15 : Int32 → zS → Option zS) (hr15 : ∀ (x0 : Int32) (σ : zS), zPr (sX3_putInto b1 σ.2.2) σ id (r15 x0 σ)) : ∀ (fuel : Nat) (x3 : Int32) (x4 : Int32) (x5 : Int32) (σ : zS), zPr (sX3_putInto b1 σ.2.2) σ id (fX3_putInto_73 b1 r15 fuel x3 x4 x5 σ) := by
  intro fuel
  induction fuel with
  | zero => intro x3 x4 x5 σ; exact zPr.none
  | succ f ih =>
    intro x3 x4 x5 σ
    rw [fX3_putInto_73]
    have hc := zSm.rfl (sX3_putInto b1 σ.2.2) σ
    repeat' first
      | exact zPr.none
      | exact zPr.some (by assumption)
      | refine zPr.ite ?_ ?_
      | refine zPr.wI (by assumption) (by simp only [sX3_putInto, List.mem_cons, List.not_mem_nil, or_false]; omega) (fun _ _ => ?_)
      | refine zPr.wL (by assumption) (by simp only [sX3_putInto, List.mem_cons, List.not_mem_nil, or_false]; omega) (fun _ _ => ?_)
      | refine zPr.bI (by assumption) (by simp only [sX3_putInto, List.mem_cons, List.not_mem_nil, or_false]; omega) (fun _ _ => ?_)
      | refine zPr.bL (by assumption) (by simp only [sX3_putInto, List.mem_cons, List.not_mem_nil, or_false]; omega) (fun _ _ => ?_)
      | refine zPr.wC (by assumption) (by simp only [sX3_putInto, List.mem_cons, List.not_mem_nil, or_false]; omega) (fun _ _ => ?_)
      | refine zPr.aI (fun _ => ?_)
      | refine zPr.aL (fun _ => ?_)
      | refine zPr.gd ?_
      | refine zPr.bw (S' := sX7_keepNothing) (by assumption) (mX7_keepNothing ..) (fun p hp => by simp only [sX7_keepNothing, sX3_putInto, List.mem_cons, List.not_mem_nil, or_false] at hp ⊢ <;> omega) (fun _ _ => ?_)
      | refine zPr.bw (S' := sX7_setBreath) (by assumption) (mX7_setBreath ..) (fun p hp => by simp only [sX7_setBreath, sX3_putInto, List.mem_cons, List.not_mem_nil, or_false] at hp ⊢ <;> omega) (fun _ _ => ?_)
      | refine zPr.bw (S' := sX7_setGives) (by assumption) (mX7_setGives ..) (fun p hp => by simp only [sX7_setGives, sX3_putInto, List.mem_cons, List.not_mem_nil, or_false] at hp ⊢ <;> omega) (fun _ _ => ?_)
      | refine zPr.bw (S' := sX7_setNextTunnel) (by assumption) (mX7_setNextTunnel ..) (fun p hp => by simp only [sX7_setNextTunnel, sX3_putInto, List.mem_cons, List.not_mem_nil, or_false] at hp ⊢ <;> omega) (fun _ _ => ?_)
      | refine zPr.bw (S' := sX7_setScore) (by assumption) (mX7_setScore ..) (fun p hp => by simp only [sX7_setScore, sX3_putInto, List.mem_cons, List.not_mem_nil, or_false] at hp ⊢ <;> omega) (fun _ _ => ?_)
      | refine zPr.bw (S' := sX7_setThinks) (by assumption) (mX7_setThinks ..) (fun p hp => by simp only [sX7_setThinks, sX3_putInto, List.mem_cons, List.not_mem_nil, or_false] at hp ⊢ <;> omega) (fun _ _ => ?_)
      | refine zPr.bnr (fun _ => ?_)
      | refine zPr.bnv (fun _ => ?_)
      | exact zPr.tail (S' := sX3_putInto b1) (by assumption) (ih ..) (fun _ h => h)
      | exact zPr.tail (S' := sX3_putInto b1) (by assumption) (hr15 ..) (fun _ h => h)
theorem mX3_putInto_15 (b1 : Bool) : ∀ (fuel : Nat) (x3 : Int32) (σ : zS), zPr (sX3_putInto b1 σ.2.2) σ id (fX3_putInto_15 b1 fuel x3 σ) := by
  intro fuel
  induction fuel with
  | zero => intro x3 σ; exact zPr.none
  | succ f ih =>
    intro x3 σ
    rw [fX3_putInto_15]
    have hc := zSm.rfl (sX3_putInto b1 σ.2.2) σ
    repeat' first
      | exact zPr.none
      | exact zPr.some (by assumption)
      | refine zPr.ite ?_ ?_
      | refine zPr.wI (by assumption) (by simp only [sX3_putInto, List.mem_cons, List.not_mem_nil, or_false]; omega) (fun _ _ => ?_)
      | refine zPr.wL (by assumption) (by simp only [sX3_putInto, List.mem_cons, List.not_mem_nil, or_false]; omega) (fun _ _ => ?_)
      | refine zPr.bI (by assumption) (by simp only [sX3_putInto, List.mem_cons, List.not_mem_nil, or_false]; omega) (fun _ _ => ?_)
      | refine zPr.bL (by assumption) (by simp only [sX3_putInto, List.mem_cons, List.not_mem_nil, or_false]; omega) (fun _ _ => ?_)
      | refine zPr.wC (by assumption) (by simp only [sX3_putInto, List.mem_cons, List.not_mem_nil, or_false]; omega) (fun _ _ => ?_)
      | refine zPr.aI (fun _ => ?_)
      | refine zPr.aL (fun _ => ?_)
      | refine zPr.gd ?_
      | refine zPr.bw (S' := sX7_keepNothing) (by assumption) (mX7_keepNothing ..) (fun p hp => by simp only [sX7_keepNothing, sX3_putInto, List.mem_cons, List.not_mem_nil, or_false] at hp ⊢ <;> omega) (fun _ _ => ?_)
      | refine zPr.bw (S' := sX7_setBreath) (by assumption) (mX7_setBreath ..) (fun p hp => by simp only [sX7_setBreath, sX3_putInto, List.mem_cons, List.not_mem_nil, or_false] at hp ⊢ <;> omega) (fun _ _ => ?_)
      | refine zPr.bw (S' := sX7_setGives) (by assumption) (mX7_setGives ..) (fun p hp => by simp only [sX7_setGives, sX3_putInto, List.mem_cons, List.not_mem_nil, or_false] at hp ⊢ <;> omega) (fun _ _ => ?_)
      | refine zPr.bw (S' := sX7_setNextTunnel) (by assumption) (mX7_setNextTunnel ..) (fun p hp => by simp only [sX7_setNextTunnel, sX3_putInto, List.mem_cons, List.not_mem_nil, or_false] at hp ⊢ <;> omega) (fun _ _ => ?_)
      | refine zPr.bw (S' := sX7_setScore) (by assumption) (mX7_setScore ..) (fun p hp => by simp only [sX7_setScore, sX3_putInto, List.mem_cons, List.not_mem_nil, or_false] at hp ⊢ <;> omega) (fun _ _ => ?_)
      | refine zPr.bw (S' := sX7_setThinks) (by assumption) (mX7_setThinks ..) (fun p hp => by simp only [sX7_setThinks, sX3_putInto, List.mem_cons, List.not_mem_nil, or_false] at hp ⊢ <;> omega) (fun _ _ => ?_)
      | refine zPr.bnr (fun _ => ?_)
      | refine zPr.bnv (fun _ => ?_)
      | exact zPr.tail (S' := sX3_putInto b1) (by assumption) (ih ..) (fun _ h => h)
      | exact zPr.tail (S' := sX3_putInto b1) (by assumption) (mX3_putInto_73 _ _ (by first | assumption | exact ih | (intros; apply ih) | (intros; apply mX3_putInto_15)) ..) (fun _ h => h)
theorem mX3_putInto (b1 : Bool) (σ : zS) : zPr (sX3_putInto b1 σ.2.2) σ id (fX3_putInto b1 σ) := by
  unfold fX3_putInto
  have hc := zSm.rfl (sX3_putInto b1 σ.2.2) σ
  repeat' first
    | exact zPr.none
    | exact zPr.some (by assumption)
    | refine zPr.ite ?_ ?_
    | refine zPr.wI (by assumption) (by simp only [sX3_putInto, List.mem_cons, List.not_mem_nil, or_false]; omega) (fun _ _ => ?_)
    | refine zPr.wL (by assumption) (by simp only [sX3_putInto, List.mem_cons, List.not_mem_nil, or_false]; omega) (fun _ _ => ?_)
    | refine zPr.bI (by assumption) (by simp only [sX3_putInto, List.mem_cons, List.not_mem_nil, or_false]; omega) (fun _ _ => ?_)
    | refine zPr.bL (by assumption) (by simp only [sX3_putInto, List.mem_cons, List.not_mem_nil, or_false]; omega) (fun _ _ => ?_)
    | refine zPr.wC (by assumption) (by simp only [sX3_putInto, List.mem_cons, List.not_mem_nil, or_false]; omega) (fun _ _ => ?_)
    | refine zPr.aI (fun _ => ?_)
    | refine zPr.aL (fun _ => ?_)
    | refine zPr.gd ?_
    | refine zPr.bw (S' := sX7_keepNothing) (by assumption) (mX7_keepNothing ..) (fun p hp => by simp only [sX7_keepNothing, sX3_putInto, List.mem_cons, List.not_mem_nil, or_false] at hp ⊢ <;> omega) (fun _ _ => ?_)
    | refine zPr.bw (S' := sX7_setBreath) (by assumption) (mX7_setBreath ..) (fun p hp => by simp only [sX7_setBreath, sX3_putInto, List.mem_cons, List.not_mem_nil, or_false] at hp ⊢ <;> omega) (fun _ _ => ?_)
    | refine zPr.bw (S' := sX7_setGives) (by assumption) (mX7_setGives ..) (fun p hp => by simp only [sX7_setGives, sX3_putInto, List.mem_cons, List.not_mem_nil, or_false] at hp ⊢ <;> omega) (fun _ _ => ?_)
    | refine zPr.bw (S' := sX7_setNextTunnel) (by assumption) (mX7_setNextTunnel ..) (fun p hp => by simp only [sX7_setNextTunnel, sX3_putInto, List.mem_cons, List.not_mem_nil, or_false] at hp ⊢ <;> omega) (fun _ _ => ?_)
    | refine zPr.bw (S' := sX7_setScore) (by assumption) (mX7_setScore ..) (fun p hp => by simp only [sX7_setScore, sX3_putInto, List.mem_cons, List.not_mem_nil, or_false] at hp ⊢ <;> omega) (fun _ _ => ?_)
    | refine zPr.bw (S' := sX7_setThinks) (by assumption) (mX7_setThinks ..) (fun p hp => by simp only [sX7_setThinks, sX3_putInto, List.mem_cons, List.not_mem_nil, or_false] at hp ⊢ <;> omega) (fun _ _ => ?_)
    | refine zPr.bnr (fun _ => ?_)
    | refine zPr.bnv (fun _ => ?_)
    | exact zPr.tail (S' := sX3_putInto b1) (by assumption) (mX3_putInto_73 _ _ (by first | assumption | exact ih | (intros; apply ih) | (intros; apply mX3_putInto_15)) ..) (fun _ h => h)
    | exact zPr.tail (S' := sX3_putInto b1) (by assumption) (mX3_putInto_15 _ ..) (fun _ h => h)
def sX10_goOn (t : Bool × Bool × Bool) : List Nat := [2, 27, 37, 5, 6]
theorem mX10_goOn_61 (x1 : Int32) (σ : zS) : zPr (sX10_goOn σ.2.2) σ Prod.snd (fX10_goOn_61 x1 σ) := by
  unfold fX10_goOn_61
  have hc := zSm.rfl (sX10_goOn σ.2.2) σ
  repeat' first
    | exact zPr.none
    | exact zPr.some (by assumption)
    | refine zPr.ite ?_ ?_
    | refine zPr.wI (by assumption) (by simp only [sX10_goOn, List.mem_cons, List.not_mem_nil, or_false]; omega) (fun _ _ => ?_)
    | refine zPr.wL (by assumption) (by simp only [sX10_goOn, List.mem_cons, List.not_mem_nil, or_false]; omega) (fun _ _ => ?_)
    | refine zPr.bI (by assumption) (by simp only [sX10_goOn, List.mem_cons, List.not_mem_nil, or_false]; omega) (fun _ _ => ?_)
    | refine zPr.bL (by assumption) (by simp only [sX10_goOn, List.mem_cons, List.not_mem_nil, or_false]; omega) (fun _ _ => ?_)
    | refine zPr.wC (by assumption) (by simp only [sX10_goOn, List.mem_cons, List.not_mem_nil, or_false]; omega) (fun _ _ => ?_)
    | refine zPr.aI (fun _ => ?_)
    | refine zPr.aL (fun _ => ?_)
    | refine zPr.gd ?_
    | refine zPr.bw (S' := sX0_forget) (by assumption) (mX0_forget ..) (fun p hp => by simp only [sX0_forget, sX10_goOn, List.mem_cons, List.not_mem_nil, or_false] at hp ⊢ <;> omega) (fun _ _ => ?_)
    | refine zPr.bc (S' := sX10_refuse) (by assumption) (mX10_refuse ..) (fun p hp => by simp only [sX10_refuse, sX10_goOn, List.mem_cons, List.not_mem_nil, or_false] at hp ⊢ <;> omega) (fun _ _ _ => ?_)
    | refine zPr.bw (S' := sX3_putInto _) (by assumption) (mX3_putInto ..) (fun p hp => by simp only [sX3_putInto, sX10_goOn, List.mem_cons, List.not_mem_nil, or_false] at hp ⊢ <;> omega) (fun _ _ => ?_)
    | refine zPr.bnr (fun _ => ?_)
    | refine zPr.bnv (fun _ => ?_)
theorem mX10_goOn (σ : zS) : zPr (sX10_goOn σ.2.2) σ Prod.snd (fX10_goOn σ) := by
  unfold fX10_goOn
  have hc := zSm.rfl (sX10_goOn σ.2.2) σ
  repeat' first
    | exact zPr.none
    | exact zPr.some (by assumption)
    | refine zPr.ite ?_ ?_
    | refine zPr.wI (by assumption) (by simp only [sX10_goOn, List.mem_cons, List.not_mem_nil, or_false]; omega) (fun _ _ => ?_)
    | refine zPr.wL (by assumption) (by simp only [sX10_goOn, List.mem_cons, List.not_mem_nil, or_false]; omega) (fun _ _ => ?_)
    | refine zPr.bI (by assumption) (by simp only [sX10_goOn, List.mem_cons, List.not_mem_nil, or_false]; omega) (fun _ _ => ?_)
    | refine zPr.bL (by assumption) (by simp only [sX10_goOn, List.mem_cons, List.not_mem_nil, or_false]; omega) (fun _ _ => ?_)
    | refine zPr.wC (by assumption) (by simp only [sX10_goOn, List.mem_cons, List.not_mem_nil, or_false]; omega) (fun _ _ => ?_)
    | refine zPr.aI (fun _ => ?_)
    | refine zPr.aL (fun _ => ?_)
    | refine zPr.gd ?_
    | refine zPr.bw (S' := sX0_forget) (by assumption) (mX0_forget ..) (fun p hp => by simp only [sX0_forget, sX10_goOn, List.mem_cons, List.not_mem_nil, or_false] at hp ⊢ <;> omega) (fun _ _ => ?_)
    | refine zPr.bc (S' := sX10_refuse) (by assumption) (mX10_refuse ..) (fun p hp => by simp only [sX10_refuse, sX10_goOn, List.mem_cons, List.not_mem_nil, or_false] at hp ⊢ <;> omega) (fun _ _ _ => ?_)
    | refine zPr.bw (S' := sX3_putInto _) (by assumption) (mX3_putInto ..) (fun p hp => by simp only [sX3_putInto, sX10_goOn, List.mem_cons, List.not_mem_nil, or_false] at hp ⊢ <;> omega) (fun _ _ => ?_)
    | refine zPr.bnr (fun _ => ?_)
    | refine zPr.bnv (fun _ => ?_)
    | exact zPr.tail (S' := sX10_goOn) (by assumption) (mX10_goOn_61 ..) (fun _ h => h)
def sX11_put (t : Bool × Bool × Bool) : List Nat := [56, 57]
theorem mX11_put_3 : ∀ (fuel : Nat) (x1 : Int32) (x2 : Int32) (σ : zS), zPr (sX11_put σ.2.2) σ id (fX11_put_3 fuel x1 x2 σ) := by
  intro fuel
  induction fuel with
  | zero => intro x1 x2 σ; exact zPr.none
  | succ f ih =>
    intro x1 x2 σ
    rw [fX11_put_3]
    have hc := zSm.rfl (sX11_put σ.2.2) σ
    repeat' first
      | exact zPr.none
      | exact zPr.some (by assumption)
      | refine zPr.ite ?_ ?_
      | refine zPr.wI (by assumption) (by simp only [sX11_put, List.mem_cons, List.not_mem_nil, or_false]; omega) (fun _ _ => ?_)
      | refine zPr.wL (by assumption) (by simp only [sX11_put, List.mem_cons, List.not_mem_nil, or_false]; omega) (fun _ _ => ?_)
      | refine zPr.bI (by assumption) (by simp only [sX11_put, List.mem_cons, List.not_mem_nil, or_false]; omega) (fun _ _ => ?_)
      | refine zPr.bL (by assumption) (by simp only [sX11_put, List.mem_cons, List.not_mem_nil, or_false]; omega) (fun _ _ => ?_)
      | refine zPr.wC (by assumption) (by simp only [sX11_put, List.mem_cons, List.not_mem_nil, or_false]; omega) (fun _ _ => ?_)
      | refine zPr.aI (fun _ => ?_)
      | refine zPr.aL (fun _ => ?_)
      | refine zPr.gd ?_
      | refine zPr.bnr (fun _ => ?_)
      | refine zPr.bnv (fun _ => ?_)
      | exact zPr.tail (S' := sX11_put) (by assumption) (ih ..) (fun _ h => h)
theorem mX11_put (p1 : Int32) (σ : zS) : zPr (sX11_put σ.2.2) σ id (fX11_put p1 σ) := by
  unfold fX11_put
  have hc := zSm.rfl (sX11_put σ.2.2) σ
  repeat' first
    | exact zPr.none
    | exact zPr.some (by assumption)
    | refine zPr.ite ?_ ?_
    | refine zPr.wI (by assumption) (by simp only [sX11_put, List.mem_cons, List.not_mem_nil, or_false]; omega) (fun _ _ => ?_)
    | refine zPr.wL (by assumption) (by simp only [sX11_put, List.mem_cons, List.not_mem_nil, or_false]; omega) (fun _ _ => ?_)
    | refine zPr.bI (by assumption) (by simp only [sX11_put, List.mem_cons, List.not_mem_nil, or_false]; omega) (fun _ _ => ?_)
    | refine zPr.bL (by assumption) (by simp only [sX11_put, List.mem_cons, List.not_mem_nil, or_false]; omega) (fun _ _ => ?_)
    | refine zPr.wC (by assumption) (by simp only [sX11_put, List.mem_cons, List.not_mem_nil, or_false]; omega) (fun _ _ => ?_)
    | refine zPr.aI (fun _ => ?_)
    | refine zPr.aL (fun _ => ?_)
    | refine zPr.gd ?_
    | refine zPr.bnr (fun _ => ?_)
    | refine zPr.bnv (fun _ => ?_)
    | exact zPr.tail (S' := sX11_put) (by assumption) (mX11_put_3 ..) (fun _ h => h)
def sX11_refuses (t : Bool × Bool × Bool) : List Nat := [84]
theorem mX11_refuses (p1 : Int32) (σ : zS) : zPr (sX11_refuses σ.2.2) σ Prod.snd (fX11_refuses p1 σ) := by
  unfold fX11_refuses
  have hc := zSm.rfl (sX11_refuses σ.2.2) σ
  repeat' first
    | exact zPr.none
    | exact zPr.some (by assumption)
    | refine zPr.ite ?_ ?_
    | refine zPr.wI (by assumption) (by simp only [sX11_refuses, List.mem_cons, List.not_mem_nil, or_false]; omega) (fun _ _ => ?_)
    | refine zPr.wL (by assumption) (by simp only [sX11_refuses, List.mem_cons, List.not_mem_nil, or_false]; omega) (fun _ _ => ?_)
    | refine zPr.bI (by assumption) (by simp only [sX11_refuses, List.mem_cons, List.not_mem_nil, or_false]; omega) (fun _ _ => ?_)
    | refine zPr.bL (by assumption) (by simp only [sX11_refuses, List.mem_cons, List.not_mem_nil, or_false]; omega) (fun _ _ => ?_)
    | refine zPr.wC (by assumption) (by simp only [sX11_refuses, List.mem_cons, List.not_mem_nil, or_false]; omega) (fun _ _ => ?_)
    | refine zPr.aI (fun _ => ?_)
    | refine zPr.aL (fun _ => ?_)
    | refine zPr.gd ?_
    | refine zPr.bnr (fun _ => ?_)
    | refine zPr.bnv (fun _ => ?_)
def sX11_feed (t : Bool × Bool × Bool) : List Nat := [56, 57, 84]
theorem mX11_feed (p1 : Int32) (p2 : Int32) (p3 : Int32) (p4 : Int32) (p5 : Int32) (σ : zS) : zPr (sX11_feed σ.2.2) σ Prod.snd (fX11_feed p1 p2 p3 p4 p5 σ) := by
  unfold fX11_feed
  have hc := zSm.rfl (sX11_feed σ.2.2) σ
  repeat' first
    | exact zPr.none
    | exact zPr.some (by assumption)
    | refine zPr.ite ?_ ?_
    | refine zPr.wI (by assumption) (by simp only [sX11_feed, List.mem_cons, List.not_mem_nil, or_false]; omega) (fun _ _ => ?_)
    | refine zPr.wL (by assumption) (by simp only [sX11_feed, List.mem_cons, List.not_mem_nil, or_false]; omega) (fun _ _ => ?_)
    | refine zPr.bI (by assumption) (by simp only [sX11_feed, List.mem_cons, List.not_mem_nil, or_false]; omega) (fun _ _ => ?_)
    | refine zPr.bL (by assumption) (by simp only [sX11_feed, List.mem_cons, List.not_mem_nil, or_false]; omega) (fun _ _ => ?_)
    | refine zPr.wC (by assumption) (by simp only [sX11_feed, List.mem_cons, List.not_mem_nil, or_false]; omega) (fun _ _ => ?_)
    | refine zPr.aI (fun _ => ?_)
    | refine zPr.aL (fun _ => ?_)
    | refine zPr.gd ?_
    | refine zPr.bw (S' := sX11_put) (by assumption) (mX11_put ..) (fun p hp => by simp only [sX11_put, sX11_feed, List.mem_cons, List.not_mem_nil, or_false] at hp ⊢ <;> omega) (fun _ _ => ?_)
    | refine zPr.bc (S' := sX11_refuses) (by assumption) (mX11_refuses ..) (fun p hp => by simp only [sX11_refuses, sX11_feed, List.mem_cons, List.not_mem_nil, or_false] at hp ⊢ <;> omega) (fun _ _ _ => ?_)
    | refine zPr.bnr (fun _ => ?_)
    | refine zPr.bnv (fun _ => ?_)
def sX11_end (t : Bool × Bool × Bool) : List Nat := [56, 84]
theorem mX11_end_12 (σ : zS) : zPr (sX11_end σ.2.2) σ Prod.snd (fX11_end_12 σ) := by
  unfold fX11_end_12
  have hc := zSm.rfl (sX11_end σ.2.2) σ
  repeat' first
    | exact zPr.none
    | exact zPr.some (by assumption)
    | refine zPr.ite ?_ ?_
    | refine zPr.wI (by assumption) (by simp only [sX11_end, List.mem_cons, List.not_mem_nil, or_false]; omega) (fun _ _ => ?_)
    | refine zPr.wL (by assumption) (by simp only [sX11_end, List.mem_cons, List.not_mem_nil, or_false]; omega) (fun _ _ => ?_)
    | refine zPr.bI (by assumption) (by simp only [sX11_end, List.mem_cons, List.not_mem_nil, or_false]; omega) (fun _ _ => ?_)
    | refine zPr.bL (by assumption) (by simp only [sX11_end, List.mem_cons, List.not_mem_nil, or_false]; omega) (fun _ _ => ?_)
    | refine zPr.wC (by assumption) (by simp only [sX11_end, List.mem_cons, List.not_mem_nil, or_false]; omega) (fun _ _ => ?_)
    | refine zPr.aI (fun _ => ?_)
    | refine zPr.aL (fun _ => ?_)
    | refine zPr.gd ?_
    | refine zPr.bc (S' := sX11_refuses) (by assumption) (mX11_refuses ..) (fun p hp => by simp only [sX11_refuses, sX11_end, List.mem_cons, List.not_mem_nil, or_false] at hp ⊢ <;> omega) (fun _ _ _ => ?_)
    | refine zPr.bnr (fun _ => ?_)
    | refine zPr.bnv (fun _ => ?_)
theorem mX11_end (p1 : Int32) (σ : zS) : zPr (sX11_end σ.2.2) σ Prod.snd (fX11_end p1 σ) := by
  unfold fX11_end
  have hc := zSm.rfl (sX11_end σ.2.2) σ
  repeat' first
    | exact zPr.none
    | exact zPr.some (by assumption)
    | refine zPr.ite ?_ ?_
    | refine zPr.wI (by assumption) (by simp only [sX11_end, List.mem_cons, List.not_mem_nil, or_false]; omega) (fun _ _ => ?_)
    | refine zPr.wL (by assumption) (by simp only [sX11_end, List.mem_cons, List.not_mem_nil, or_false]; omega) (fun _ _ => ?_)
    | refine zPr.bI (by assumption) (by simp only [sX11_end, List.mem_cons, List.not_mem_nil, or_false]; omega) (fun _ _ => ?_)
    | refine zPr.bL (by assumption) (by simp only [sX11_end, List.mem_cons, List.not_mem_nil, or_false]; omega) (fun _ _ => ?_)
    | refine zPr.wC (by assumption) (by simp only [sX11_end, List.mem_cons, List.not_mem_nil, or_false]; omega) (fun _ _ => ?_)
    | refine zPr.aI (fun _ => ?_)
    | refine zPr.aL (fun _ => ?_)
    | refine zPr.gd ?_
    | refine zPr.bc (S' := sX11_refuses) (by assumption) (mX11_refuses ..) (fun p hp => by simp only [sX11_refuses, sX11_end, List.mem_cons, List.not_mem_nil, or_false] at hp ⊢ <;> omega) (fun _ _ _ => ?_)
    | refine zPr.bnr (fun _ => ?_)
    | refine zPr.bnv (fun _ => ?_)
    | exact zPr.tail (S' := sX11_end) (by assumption) (mX11_end_12 ..) (fun _ h => h)
def sX11_blame (t : Bool × Bool × Bool) : List Nat := [56]
theorem mX11_blame (p1 : Int32) (p2 : Int32) (σ : zS) : zPr (sX11_blame σ.2.2) σ id (fX11_blame p1 p2 σ) := by
  unfold fX11_blame
  have hc := zSm.rfl (sX11_blame σ.2.2) σ
  repeat' first
    | exact zPr.none
    | exact zPr.some (by assumption)
    | refine zPr.ite ?_ ?_
    | refine zPr.wI (by assumption) (by simp only [sX11_blame, List.mem_cons, List.not_mem_nil, or_false]; omega) (fun _ _ => ?_)
    | refine zPr.wL (by assumption) (by simp only [sX11_blame, List.mem_cons, List.not_mem_nil, or_false]; omega) (fun _ _ => ?_)
    | refine zPr.bI (by assumption) (by simp only [sX11_blame, List.mem_cons, List.not_mem_nil, or_false]; omega) (fun _ _ => ?_)
    | refine zPr.bL (by assumption) (by simp only [sX11_blame, List.mem_cons, List.not_mem_nil, or_false]; omega) (fun _ _ => ?_)
    | refine zPr.wC (by assumption) (by simp only [sX11_blame, List.mem_cons, List.not_mem_nil, or_false]; omega) (fun _ _ => ?_)
    | refine zPr.aI (fun _ => ?_)
    | refine zPr.aL (fun _ => ?_)
    | refine zPr.gd ?_
    | refine zPr.bnr (fun _ => ?_)
    | refine zPr.bnv (fun _ => ?_)
def sX11_lex (t : Bool × Bool × Bool) : List Nat := [56]
theorem mX11_lex (σ : zS) : zPr (sX11_lex σ.2.2) σ id (fX11_lex σ) := by
  unfold fX11_lex
  have hc := zSm.rfl (sX11_lex σ.2.2) σ
  repeat' first
    | exact zPr.none
    | exact zPr.some (by assumption)
    | refine zPr.ite ?_ ?_
    | refine zPr.wI (by assumption) (by simp only [sX11_lex, List.mem_cons, List.not_mem_nil, or_false]; omega) (fun _ _ => ?_)
    | refine zPr.wL (by assumption) (by simp only [sX11_lex, List.mem_cons, List.not_mem_nil, or_false]; omega) (fun _ _ => ?_)
    | refine zPr.bI (by assumption) (by simp only [sX11_lex, List.mem_cons, List.not_mem_nil, or_false]; omega) (fun _ _ => ?_)
    | refine zPr.bL (by assumption) (by simp only [sX11_lex, List.mem_cons, List.not_mem_nil, or_false]; omega) (fun _ _ => ?_)
    | refine zPr.wC (by assumption) (by simp only [sX11_lex, List.mem_cons, List.not_mem_nil, or_false]; omega) (fun _ _ => ?_)
    | refine zPr.aI (fun _ => ?_)
    | refine zPr.aL (fun _ => ?_)
    | refine zPr.gd ?_
    | refine zPr.bw (S' := sX11_blame) (by assumption) (mX11_blame ..) (fun p hp => by simp only [sX11_blame, sX11_lex, List.mem_cons, List.not_mem_nil, or_false] at hp ⊢ <;> omega) (fun _ _ => ?_)
    | refine zPr.bnr (fun _ => ?_)
    | refine zPr.bnv (fun _ => ?_)
def sX11_ahead (t : Bool × Bool × Bool) : List Nat := [56]
theorem mX11_ahead_334 (x1 : Int32) (σ : zS) : zPr (sX11_ahead σ.2.2) σ id (fX11_ahead_334 x1 σ) := by
  unfold fX11_ahead_334
  have hc := zSm.rfl (sX11_ahead σ.2.2) σ
  repeat' first
    | exact zPr.none
    | exact zPr.some (by assumption)
    | refine zPr.ite ?_ ?_
    | refine zPr.wI (by assumption) (by simp only [sX11_ahead, List.mem_cons, List.not_mem_nil, or_false]; omega) (fun _ _ => ?_)
    | refine zPr.wL (by assumption) (by simp only [sX11_ahead, List.mem_cons, List.not_mem_nil, or_false]; omega) (fun _ _ => ?_)
    | refine zPr.bI (by assumption) (by simp only [sX11_ahead, List.mem_cons, List.not_mem_nil, or_false]; omega) (fun _ _ => ?_)
    | refine zPr.bL (by assumption) (by simp only [sX11_ahead, List.mem_cons, List.not_mem_nil, or_false]; omega) (fun _ _ => ?_)
    | refine zPr.wC (by assumption) (by simp only [sX11_ahead, List.mem_cons, List.not_mem_nil, or_false]; omega) (fun _ _ => ?_)
    | refine zPr.aI (fun _ => ?_)
    | refine zPr.aL (fun _ => ?_)
    | refine zPr.gd ?_
    | refine zPr.bnr (fun _ => ?_)
    | refine zPr.bnv (fun _ => ?_)
theorem mX11_ahead_325 (r204 : Int32 → Int32 → Int32 → Int32 → Int32 → zS → Option zS) (hr204 : ∀ (x0 : Int32) (x1 : Int32) (x2 : Int32) (x3 : Int32) (x4 : Int32) (σ : zS), zPr (sX11_ahead σ.2.2) σ id (r204 x0 x1 x2 x3 x4 σ)) (x1 : Int32) (x2 : Int32) (x3 : Int32) (x4 : Int32) (x5 : Int32) (σ : zS) : zPr (sX11_ahead σ.2.2) σ id (fX11_ahead_325 r204 x1 x2 x3 x4 x5 σ) := by
  unfold fX11_ahead_325
  have hc := zSm.rfl (sX11_ahead σ.2.2) σ
  repeat' first
    | exact zPr.none
    | exact zPr.some (by assumption)
    | refine zPr.ite ?_ ?_
    | refine zPr.wI (by assumption) (by simp only [sX11_ahead, List.mem_cons, List.not_mem_nil, or_false]; omega) (fun _ _ => ?_)
    | refine zPr.wL (by assumption) (by simp only [sX11_ahead, List.mem_cons, List.not_mem_nil, or_false]; omega) (fun _ _ => ?_)
    | refine zPr.bI (by assumption) (by simp only [sX11_ahead, List.mem_cons, List.not_mem_nil, or_false]; omega) (fun _ _ => ?_)
    | refine zPr.bL (by assumption) (by simp only [sX11_ahead, List.mem_cons, List.not_mem_nil, or_false]; omega) (fun _ _ => ?_)
    | refine zPr.wC (by assumption) (by simp only [sX11_ahead, List.mem_cons, List.not_mem_nil, or_false]; omega) (fun _ _ => ?_)
    | refine zPr.aI (fun _ => ?_)
    | refine zPr.aL (fun _ => ?_)
    | refine zPr.gd ?_
    | refine zPr.bnr (fun _ => ?_)
    | refine zPr.bnv (fun _ => ?_)
    | exact zPr.tail (S' := sX11_ahead) (by assumption) (hr204 ..) (fun _ h => h)
    | exact zPr.tail (S' := sX11_ahead) (by assumption) (mX11_ahead_334 ..) (fun _ h => h)
theorem mX11_ahead_293 (r204 : Int32 → Int32 → Int32 → Int32 → Int32 → zS → Option zS) (hr204 : ∀ (x0 : Int32) (x1 : Int32) (x2 : Int32) (x3 : Int32) (x4 : Int32) (σ : zS), zPr (sX11_ahead σ.2.2) σ id (r204 x0 x1 x2 x3 x4 σ)) (x1 : Int32) (x2 : Int32) (x3 : Int32) (x4 : Int32) (x5 : Int32) (σ : zS) : zPr (sX11_ahead σ.2.2) σ id (fX11_ahead_293 r204 x1 x2 x3 x4 x5 σ) := by
  unfold fX11_ahead_293
  have hc := zSm.rfl (sX11_ahead σ.2.2) σ
  repeat' first
    | exact zPr.none
    | exact zPr.some (by assumption)
    | refine zPr.ite ?_ ?_
    | refine zPr.wI (by assumption) (by simp only [sX11_ahead, List.mem_cons, List.not_mem_nil, or_false]; omega) (fun _ _ => ?_)
    | refine zPr.wL (by assumption) (by simp only [sX11_ahead, List.mem_cons, List.not_mem_nil, or_false]; omega) (fun _ _ => ?_)
    | refine zPr.bI (by assumption) (by simp only [sX11_ahead, List.mem_cons, List.not_mem_nil, or_false]; omega) (fun _ _ => ?_)
    | refine zPr.bL (by assumption) (by simp only [sX11_ahead, List.mem_cons, List.not_mem_nil, or_false]; omega) (fun _ _ => ?_)
    | refine zPr.wC (by assumption) (by simp only [sX11_ahead, List.mem_cons, List.not_mem_nil, or_false]; omega) (fun _ _ => ?_)
    | refine zPr.aI (fun _ => ?_)
    | refine zPr.aL (fun _ => ?_)
    | refine zPr.gd ?_
    | refine zPr.bnr (fun _ => ?_)
    | refine zPr.bnv (fun _ => ?_)
    | exact zPr.tail (S' := sX11_ahead) (by assumption) (hr204 ..) (fun _ h => h)
    | exact zPr.tail (S' := sX11_ahead) (by assumption) (mX11_ahead_334 ..) (fun _ h => h)
    | exact zPr.tail (S' := sX11_ahead) (by assumption) (mX11_ahead_325 _ (by first | assumption | exact ih | (intros; apply ih) | (intros; apply mX11_ahead_204)) ..) (fun _ h => h)
theorem mX11_ahead_263 (r204 : Int32 → Int32 → Int32 → Int32 → Int32 → zS → Option zS) (hr204 : ∀ (x0 : Int32) (x1 : Int32) (x2 : Int32) (x3 : Int32) (x4 : Int32) (σ : zS), zPr (sX11_ahead σ.2.2) σ id (r204 x0 x1 x2 x3 x4 σ)) (x1 : Int32) (x2 : Int32) (x3 : Int32) (x4 : Int32) (x5 : Int32) (σ : zS) : zPr (sX11_ahead σ.2.2) σ id (fX11_ahead_263 r204 x1 x2 x3 x4 x5 σ) := by
  unfold fX11_ahead_263
  have hc := zSm.rfl (sX11_ahead σ.2.2) σ
  repeat' first
    | exact zPr.none
    | exact zPr.some (by assumption)
    | refine zPr.ite ?_ ?_
    | refine zPr.wI (by assumption) (by simp only [sX11_ahead, List.mem_cons, List.not_mem_nil, or_false]; omega) (fun _ _ => ?_)
    | refine zPr.wL (by assumption) (by simp only [sX11_ahead, List.mem_cons, List.not_mem_nil, or_false]; omega) (fun _ _ => ?_)
    | refine zPr.bI (by assumption) (by simp only [sX11_ahead, List.mem_cons, List.not_mem_nil, or_false]; omega) (fun _ _ => ?_)
    | refine zPr.bL (by assumption) (by simp only [sX11_ahead, List.mem_cons, List.not_mem_nil, or_false]; omega) (fun _ _ => ?_)
    | refine zPr.wC (by assumption) (by simp only [sX11_ahead, List.mem_cons, List.not_mem_nil, or_false]; omega) (fun _ _ => ?_)
    | refine zPr.aI (fun _ => ?_)
    | refine zPr.aL (fun _ => ?_)
    | refine zPr.gd ?_
    | refine zPr.bnr (fun _ => ?_)
    | refine zPr.bnv (fun _ => ?_)
    | exact zPr.tail (S' := sX11_ahead) (by assumption) (hr204 ..) (fun _ h => h)
    | exact zPr.tail (S' := sX11_ahead) (by assumption) (mX11_ahead_334 ..) (fun _ h => h)
    | exact zPr.tail (S' := sX11_ahead) (by assumption) (mX11_ahead_325 _ (by first | assumption | exact ih | (intros; apply ih) | (intros; apply mX11_ahead_204)) ..) (fun _ h => h)
    | exact zPr.tail (S' := sX11_ahead) (by assumption) (mX11_ahead_293 _ (by first | assumption | exact ih | (intros; apply ih) | (intros; apply mX11_ahead_204)) ..) (fun _ h => h)
theorem mX11_ahead_243 (r204 : Int32 → Int32 → Int32 → Int32 → Int32 → zS → Option zS) (hr204 : ∀ (x0 : Int32) (x1 : Int32) (x2 : Int32) (x3 : Int32) (x4 : Int32) (σ : zS), zPr (sX11_ahead σ.2.2) σ id (r204 x0 x1 x2 x3 x4 σ)) (x1 : Int32) (x2 : Int32) (x3 : Int32) (x4 : Int32) (x5 : Int32) (σ : zS) : zPr (sX11_ahead σ.2.2) σ id (fX11_ahead_243 r204 x1 x2 x3 x4 x5 σ) := by
  unfold fX11_ahead_243
  have hc := zSm.rfl (sX11_ahead σ.2.2) σ
  repeat' first
    | exact zPr.none
    | exact zPr.some (by assumption)
    | refine zPr.ite ?_ ?_
    | refine zPr.wI (by assumption) (by simp only [sX11_ahead, List.mem_cons, List.not_mem_nil, or_false]; omega) (fun _ _ => ?_)
    | refine zPr.wL (by assumption) (by simp only [sX11_ahead, List.mem_cons, List.not_mem_nil, or_false]; omega) (fun _ _ => ?_)
    | refine zPr.bI (by assumption) (by simp only [sX11_ahead, List.mem_cons, List.not_mem_nil, or_false]; omega) (fun _ _ => ?_)
    | refine zPr.bL (by assumption) (by simp only [sX11_ahead, List.mem_cons, List.not_mem_nil, or_false]; omega) (fun _ _ => ?_)
    | refine zPr.wC (by assumption) (by simp only [sX11_ahead, List.mem_cons, List.not_mem_nil, or_false]; omega) (fun _ _ => ?_)
    | refine zPr.aI (fun _ => ?_)
    | refine zPr.aL (fun _ => ?_)
    | refine zPr.gd ?_
    | refine zPr.bnr (fun _ => ?_)
    | refine zPr.bnv (fun _ => ?_)
    | exact zPr.tail (S' := sX11_ahead) (by assumption) (hr204 ..) (fun _ h => h)
    | exact zPr.tail (S' := sX11_ahead) (by assumption) (mX11_ahead_334 ..) (fun _ h => h)
    | exact zPr.tail (S' := sX11_ahead) (by assumption) (mX11_ahead_325 _ (by first | assumption | exact ih | (intros; apply ih) | (intros; apply mX11_ahead_204)) ..) (fun _ h => h)
    | exact zPr.tail (S' := sX11_ahead) (by assumption) (mX11_ahead_293 _ (by first | assumption | exact ih | (intros; apply ih) | (intros; apply mX11_ahead_204)) ..) (fun _ h => h)
    | exact zPr.tail (S' := sX11_ahead) (by assumption) (mX11_ahead_263 _ (by first | assumption | exact ih | (intros; apply ih) | (intros; apply mX11_ahead_204)) ..) (fun _ h => h)
theorem mX11_ahead_204 : ∀ (fuel : Nat) (x1 : Int32) (x2 : Int32) (x3 : Int32) (x4 : Int32) (x5 : Int32) (σ : zS), zPr (sX11_ahead σ.2.2) σ id (fX11_ahead_204 fuel x1 x2 x3 x4 x5 σ) := by
  intro fuel
  induction fuel with
  | zero => intro x1 x2 x3 x4 x5 σ; exact zPr.none
  | succ f ih =>
    intro x1 x2 x3 x4 x5 σ
    rw [fX11_ahead_204]
    have hc := zSm.rfl (sX11_ahead σ.2.2) σ
    repeat' first
      | exact zPr.none
      | exact zPr.some (by assumption)
      | refine zPr.ite ?_ ?_
      | refine zPr.wI (by assumption) (by simp only [sX11_ahead, List.mem_cons, List.not_mem_nil, or_false]; omega) (fun _ _ => ?_)
      | refine zPr.wL (by assumption) (by simp only [sX11_ahead, List.mem_cons, List.not_mem_nil, or_false]; omega) (fun _ _ => ?_)
      | refine zPr.bI (by assumption) (by simp only [sX11_ahead, List.mem_cons, List.not_mem_nil, or_false]; omega) (fun _ _ => ?_)
      | refine zPr.bL (by assumption) (by simp only [sX11_ahead, List.mem_cons, List.not_mem_nil, or_false]; omega) (fun _ _ => ?_)
      | refine zPr.wC (by assumption) (by simp only [sX11_ahead, List.mem_cons, List.not_mem_nil, or_false]; omega) (fun _ _ => ?_)
      | refine zPr.aI (fun _ => ?_)
      | refine zPr.aL (fun _ => ?_)
      | refine zPr.gd ?_
      | refine zPr.bnr (fun _ => ?_)
      | refine zPr.bnv (fun _ => ?_)
      | exact zPr.tail (S' := sX11_ahead) (by assumption) (ih ..) (fun _ h => h)
      | exact zPr.tail (S' := sX11_ahead) (by assumption) (mX11_ahead_334 ..) (fun _ h => h)
      | exact zPr.tail (S' := sX11_ahead) (by assumption) (mX11_ahead_325 _ (by first | assumption | exact ih | (intros; apply ih) | (intros; apply mX11_ahead_204)) ..) (fun _ h => h)
      | exact zPr.tail (S' := sX11_ahead) (by assumption) (mX11_ahead_293 _ (by first | assumption | exact ih | (intros; apply ih) | (intros; apply mX11_ahead_204)) ..) (fun _ h => h)
      | exact zPr.tail (S' := sX11_ahead) (by assumption) (mX11_ahead_263 _ (by first | assumption | exact ih | (intros; apply ih) | (intros; apply mX11_ahead_204)) ..) (fun _ h => h)
      | exact zPr.tail (S' := sX11_ahead) (by assumption) (mX11_ahead_243 _ (by first | assumption | exact ih | (intros; apply ih) | (intros; apply mX11_ahead_204)) ..) (fun _ h => h)
theorem mX11_ahead_199 (x1 : Int32) (x2 : Int32) (x3 : Int32) (s0 : Int32) (σ : zS) : zPr (sX11_ahead σ.2.2) σ id (fX11_ahead_199 x1 x2 x3 s0 σ) := by
  unfold fX11_ahead_199
  have hc := zSm.rfl (sX11_ahead σ.2.2) σ
  repeat' first
    | exact zPr.none
    | exact zPr.some (by assumption)
    | refine zPr.ite ?_ ?_
    | refine zPr.wI (by assumption) (by simp only [sX11_ahead, List.mem_cons, List.not_mem_nil, or_false]; omega) (fun _ _ => ?_)
    | refine zPr.wL (by assumption) (by simp only [sX11_ahead, List.mem_cons, List.not_mem_nil, or_false]; omega) (fun _ _ => ?_)
    | refine zPr.bI (by assumption) (by simp only [sX11_ahead, List.mem_cons, List.not_mem_nil, or_false]; omega) (fun _ _ => ?_)
    | refine zPr.bL (by assumption) (by simp only [sX11_ahead, List.mem_cons, List.not_mem_nil, or_false]; omega) (fun _ _ => ?_)
    | refine zPr.wC (by assumption) (by simp only [sX11_ahead, List.mem_cons, List.not_mem_nil, or_false]; omega) (fun _ _ => ?_)
    | refine zPr.aI (fun _ => ?_)
    | refine zPr.aL (fun _ => ?_)
    | refine zPr.gd ?_
    | refine zPr.bnr (fun _ => ?_)
    | refine zPr.bnv (fun _ => ?_)
    | exact zPr.tail (S' := sX11_ahead) (by assumption) (mX11_ahead_334 ..) (fun _ h => h)
    | exact zPr.tail (S' := sX11_ahead) (by assumption) (mX11_ahead_325 _ (by first | assumption | exact ih | (intros; apply ih) | (intros; apply mX11_ahead_204)) ..) (fun _ h => h)
    | exact zPr.tail (S' := sX11_ahead) (by assumption) (mX11_ahead_293 _ (by first | assumption | exact ih | (intros; apply ih) | (intros; apply mX11_ahead_204)) ..) (fun _ h => h)
    | exact zPr.tail (S' := sX11_ahead) (by assumption) (mX11_ahead_263 _ (by first | assumption | exact ih | (intros; apply ih) | (intros; apply mX11_ahead_204)) ..) (fun _ h => h)
    | exact zPr.tail (S' := sX11_ahead) (by assumption) (mX11_ahead_243 _ (by first | assumption | exact ih | (intros; apply ih) | (intros; apply mX11_ahead_204)) ..) (fun _ h => h)
    | exact zPr.tail (S' := sX11_ahead) (by assumption) (mX11_ahead_204 ..) (fun _ h => h)
theorem mX11_ahead_186 (x1 : Int32) (x2 : Int32) (x3 : Int32) (s0 : Int32) (σ : zS) : zPr (sX11_ahead σ.2.2) σ id (fX11_ahead_186 x1 x2 x3 s0 σ) := by
  unfold fX11_ahead_186
  have hc := zSm.rfl (sX11_ahead σ.2.2) σ
  repeat' first
    | exact zPr.none
    | exact zPr.some (by assumption)
    | refine zPr.ite ?_ ?_
    | refine zPr.wI (by assumption) (by simp only [sX11_ahead, List.mem_cons, List.not_mem_nil, or_false]; omega) (fun _ _ => ?_)
    | refine zPr.wL (by assumption) (by simp only [sX11_ahead, List.mem_cons, List.not_mem_nil, or_false]; omega) (fun _ _ => ?_)
    | refine zPr.bI (by assumption) (by simp only [sX11_ahead, List.mem_cons, List.not_mem_nil, or_false]; omega) (fun _ _ => ?_)
    | refine zPr.bL (by assumption) (by simp only [sX11_ahead, List.mem_cons, List.not_mem_nil, or_false]; omega) (fun _ _ => ?_)
    | refine zPr.wC (by assumption) (by simp only [sX11_ahead, List.mem_cons, List.not_mem_nil, or_false]; omega) (fun _ _ => ?_)
    | refine zPr.aI (fun _ => ?_)
    | refine zPr.aL (fun _ => ?_)
    | refine zPr.gd ?_
    | refine zPr.bnr (fun _ => ?_)
    | refine zPr.bnv (fun _ => ?_)
    | exact zPr.tail (S' := sX11_ahead) (by assumption) (mX11_ahead_334 ..) (fun _ h => h)
    | exact zPr.tail (S' := sX11_ahead) (by assumption) (mX11_ahead_325 _ (by first | assumption | exact ih | (intros; apply ih) | (intros; apply mX11_ahead_204)) ..) (fun _ h => h)
    | exact zPr.tail (S' := sX11_ahead) (by assumption) (mX11_ahead_293 _ (by first | assumption | exact ih | (intros; apply ih) | (intros; apply mX11_ahead_204)) ..) (fun _ h => h)
    | exact zPr.tail (S' := sX11_ahead) (by assumption) (mX11_ahead_263 _ (by first | assumption | exact ih | (intros; apply ih) | (intros; apply mX11_ahead_204)) ..) (fun _ h => h)
    | exact zPr.tail (S' := sX11_ahead) (by assumption) (mX11_ahead_243 _ (by first | assumption | exact ih | (intros; apply ih) | (intros; apply mX11_ahead_204)) ..) (fun _ h => h)
    | exact zPr.tail (S' := sX11_ahead) (by assumption) (mX11_ahead_204 ..) (fun _ h => h)
    | exact zPr.tail (S' := sX11_ahead) (by assumption) (mX11_ahead_199 ..) (fun _ h => h)
theorem mX11_ahead_176 (x1 : Int32) (x2 : Int32) (x3 : Int32) (σ : zS) : zPr (sX11_ahead σ.2.2) σ id (fX11_ahead_176 x1 x2 x3 σ) := by
  unfold fX11_ahead_176
  have hc := zSm.rfl (sX11_ahead σ.2.2) σ
  repeat' first
    | exact zPr.none
    | exact zPr.some (by assumption)
    | refine zPr.ite ?_ ?_
    | refine zPr.wI (by assumption) (by simp only [sX11_ahead, List.mem_cons, List.not_mem_nil, or_false]; omega) (fun _ _ => ?_)
    | refine zPr.wL (by assumption) (by simp only [sX11_ahead, List.mem_cons, List.not_mem_nil, or_false]; omega) (fun _ _ => ?_)
    | refine zPr.bI (by assumption) (by simp only [sX11_ahead, List.mem_cons, List.not_mem_nil, or_false]; omega) (fun _ _ => ?_)
    | refine zPr.bL (by assumption) (by simp only [sX11_ahead, List.mem_cons, List.not_mem_nil, or_false]; omega) (fun _ _ => ?_)
    | refine zPr.wC (by assumption) (by simp only [sX11_ahead, List.mem_cons, List.not_mem_nil, or_false]; omega) (fun _ _ => ?_)
    | refine zPr.aI (fun _ => ?_)
    | refine zPr.aL (fun _ => ?_)
    | refine zPr.gd ?_
    | refine zPr.bnr (fun _ => ?_)
    | refine zPr.bnv (fun _ => ?_)
    | exact zPr.tail (S' := sX11_ahead) (by assumption) (mX11_ahead_334 ..) (fun _ h => h)
    | exact zPr.tail (S' := sX11_ahead) (by assumption) (mX11_ahead_325 _ (by first | assumption | exact ih | (intros; apply ih) | (intros; apply mX11_ahead_204)) ..) (fun _ h => h)
    | exact zPr.tail (S' := sX11_ahead) (by assumption) (mX11_ahead_293 _ (by first | assumption | exact ih | (intros; apply ih) | (intros; apply mX11_ahead_204)) ..) (fun _ h => h)
    | exact zPr.tail (S' := sX11_ahead) (by assumption) (mX11_ahead_263 _ (by first | assumption | exact ih | (intros; apply ih) | (intros; apply mX11_ahead_204)) ..) (fun _ h => h)
    | exact zPr.tail (S' := sX11_ahead) (by assumption) (mX11_ahead_243 _ (by first | assumption | exact ih | (intros; apply ih) | (intros; apply mX11_ahead_204)) ..) (fun _ h => h)
    | exact zPr.tail (S' := sX11_ahead) (by assumption) (mX11_ahead_204 ..) (fun _ h => h)
    | exact zPr.tail (S' := sX11_ahead) (by assumption) (mX11_ahead_199 ..) (fun _ h => h)
    | exact zPr.tail (S' := sX11_ahead) (by assumption) (mX11_ahead_186 ..) (fun _ h => h)
theorem mX11_ahead_135 (x1 : Int32) (x2 : Int32) (x3 : Int32) (σ : zS) : zPr (sX11_ahead σ.2.2) σ id (fX11_ahead_135 x1 x2 x3 σ) := by
  unfold fX11_ahead_135
  have hc := zSm.rfl (sX11_ahead σ.2.2) σ
  repeat' first
    | exact zPr.none
    | exact zPr.some (by assumption)
    | refine zPr.ite ?_ ?_
    | refine zPr.wI (by assumption) (by simp only [sX11_ahead, List.mem_cons, List.not_mem_nil, or_false]; omega) (fun _ _ => ?_)
    | refine zPr.wL (by assumption) (by simp only [sX11_ahead, List.mem_cons, List.not_mem_nil, or_false]; omega) (fun _ _ => ?_)
    | refine zPr.bI (by assumption) (by simp only [sX11_ahead, List.mem_cons, List.not_mem_nil, or_false]; omega) (fun _ _ => ?_)
    | refine zPr.bL (by assumption) (by simp only [sX11_ahead, List.mem_cons, List.not_mem_nil, or_false]; omega) (fun _ _ => ?_)
    | refine zPr.wC (by assumption) (by simp only [sX11_ahead, List.mem_cons, List.not_mem_nil, or_false]; omega) (fun _ _ => ?_)
    | refine zPr.aI (fun _ => ?_)
    | refine zPr.aL (fun _ => ?_)
    | refine zPr.gd ?_
    | refine zPr.bnr (fun _ => ?_)
    | refine zPr.bnv (fun _ => ?_)
    | exact zPr.tail (S' := sX11_ahead) (by assumption) (mX11_ahead_334 ..) (fun _ h => h)
    | exact zPr.tail (S' := sX11_ahead) (by assumption) (mX11_ahead_325 _ (by first | assumption | exact ih | (intros; apply ih) | (intros; apply mX11_ahead_204)) ..) (fun _ h => h)
    | exact zPr.tail (S' := sX11_ahead) (by assumption) (mX11_ahead_293 _ (by first | assumption | exact ih | (intros; apply ih) | (intros; apply mX11_ahead_204)) ..) (fun _ h => h)
    | exact zPr.tail (S' := sX11_ahead) (by assumption) (mX11_ahead_263 _ (by first | assumption | exact ih | (intros; apply ih) | (intros; apply mX11_ahead_204)) ..) (fun _ h => h)
    | exact zPr.tail (S' := sX11_ahead) (by assumption) (mX11_ahead_243 _ (by first | assumption | exact ih | (intros; apply ih) | (intros; apply mX11_ahead_204)) ..) (fun _ h => h)
    | exact zPr.tail (S' := sX11_ahead) (by assumption) (mX11_ahead_204 ..) (fun _ h => h)
    | exact zPr.tail (S' := sX11_ahead) (by assumption) (mX11_ahead_199 ..) (fun _ h => h)
    | exact zPr.tail (S' := sX11_ahead) (by assumption) (mX11_ahead_186 ..) (fun _ h => h)
    | exact zPr.tail (S' := sX11_ahead) (by assumption) (mX11_ahead_176 ..) (fun _ h => h)
theorem mX11_ahead_130 (x1 : Int32) (x2 : Int32) (x3 : Int32) (σ : zS) : zPr (sX11_ahead σ.2.2) σ id (fX11_ahead_130 x1 x2 x3 σ) := by
  unfold fX11_ahead_130
  have hc := zSm.rfl (sX11_ahead σ.2.2) σ
  repeat' first
    | exact zPr.none
    | exact zPr.some (by assumption)
    | refine zPr.ite ?_ ?_
    | refine zPr.wI (by assumption) (by simp only [sX11_ahead, List.mem_cons, List.not_mem_nil, or_false]; omega) (fun _ _ => ?_)
    | refine zPr.wL (by assumption) (by simp only [sX11_ahead, List.mem_cons, List.not_mem_nil, or_false]; omega) (fun _ _ => ?_)
    | refine zPr.bI (by assumption) (by simp only [sX11_ahead, List.mem_cons, List.not_mem_nil, or_false]; omega) (fun _ _ => ?_)
    | refine zPr.bL (by assumption) (by simp only [sX11_ahead, List.mem_cons, List.not_mem_nil, or_false]; omega) (fun _ _ => ?_)
    | refine zPr.wC (by assumption) (by simp only [sX11_ahead, List.mem_cons, List.not_mem_nil, or_false]; omega) (fun _ _ => ?_)
    | refine zPr.aI (fun _ => ?_)
    | refine zPr.aL (fun _ => ?_)
    | refine zPr.gd ?_
    | refine zPr.bnr (fun _ => ?_)
    | refine zPr.bnv (fun _ => ?_)
    | exact zPr.tail (S' := sX11_ahead) (by assumption) (mX11_ahead_334 ..) (fun _ h => h)
    | exact zPr.tail (S' := sX11_ahead) (by assumption) (mX11_ahead_325 _ (by first | assumption | exact ih | (intros; apply ih) | (intros; apply mX11_ahead_204)) ..) (fun _ h => h)
    | exact zPr.tail (S' := sX11_ahead) (by assumption) (mX11_ahead_293 _ (by first | assumption | exact ih | (intros; apply ih) | (intros; apply mX11_ahead_204)) ..) (fun _ h => h)
    | exact zPr.tail (S' := sX11_ahead) (by assumption) (mX11_ahead_263 _ (by first | assumption | exact ih | (intros; apply ih) | (intros; apply mX11_ahead_204)) ..) (fun _ h => h)
    | exact zPr.tail (S' := sX11_ahead) (by assumption) (mX11_ahead_243 _ (by first | assumption | exact ih | (intros; apply ih) | (intros; apply mX11_ahead_204)) ..) (fun _ h => h)
    | exact zPr.tail (S' := sX11_ahead) (by assumption) (mX11_ahead_204 ..) (fun _ h => h)
    | exact zPr.tail (S' := sX11_ahead) (by assumption) (mX11_ahead_199 ..) (fun _ h => h)
    | exact zPr.tail (S' := sX11_ahead) (by assumption) (mX11_ahead_186 ..) (fun _ h => h)
    | exact zPr.tail (S' := sX11_ahead) (by assumption) (mX11_ahead_176 ..) (fun _ h => h)
    | exact zPr.tail (S' := sX11_ahead) (by assumption) (mX11_ahead_135 ..) (fun _ h => h)
theorem mX11_ahead_98 (x1 : Int32) (x2 : Int32) (x3 : Int32) (σ : zS) : zPr (sX11_ahead σ.2.2) σ id (fX11_ahead_98 x1 x2 x3 σ) := by
  unfold fX11_ahead_98
  have hc := zSm.rfl (sX11_ahead σ.2.2) σ
  repeat' first
    | exact zPr.none
    | exact zPr.some (by assumption)
    | refine zPr.ite ?_ ?_
    | refine zPr.wI (by assumption) (by simp only [sX11_ahead, List.mem_cons, List.not_mem_nil, or_false]; omega) (fun _ _ => ?_)
    | refine zPr.wL (by assumption) (by simp only [sX11_ahead, List.mem_cons, List.not_mem_nil, or_false]; omega) (fun _ _ => ?_)
    | refine zPr.bI (by assumption) (by simp only [sX11_ahead, List.mem_cons, List.not_mem_nil, or_false]; omega) (fun _ _ => ?_)
    | refine zPr.bL (by assumption) (by simp only [sX11_ahead, List.mem_cons, List.not_mem_nil, or_false]; omega) (fun _ _ => ?_)
    | refine zPr.wC (by assumption) (by simp only [sX11_ahead, List.mem_cons, List.not_mem_nil, or_false]; omega) (fun _ _ => ?_)
    | refine zPr.aI (fun _ => ?_)
    | refine zPr.aL (fun _ => ?_)
    | refine zPr.gd ?_
    | refine zPr.bnr (fun _ => ?_)
    | refine zPr.bnv (fun _ => ?_)
    | exact zPr.tail (S' := sX11_ahead) (by assumption) (mX11_ahead_334 ..) (fun _ h => h)
    | exact zPr.tail (S' := sX11_ahead) (by assumption) (mX11_ahead_325 _ (by first | assumption | exact ih | (intros; apply ih) | (intros; apply mX11_ahead_204)) ..) (fun _ h => h)
    | exact zPr.tail (S' := sX11_ahead) (by assumption) (mX11_ahead_293 _ (by first | assumption | exact ih | (intros; apply ih) | (intros; apply mX11_ahead_204)) ..) (fun _ h => h)
    | exact zPr.tail (S' := sX11_ahead) (by assumption) (mX11_ahead_263 _ (by first | assumption | exact ih | (intros; apply ih) | (intros; apply mX11_ahead_204)) ..) (fun _ h => h)
    | exact zPr.tail (S' := sX11_ahead) (by assumption) (mX11_ahead_243 _ (by first | assumption | exact ih | (intros; apply ih) | (intros; apply mX11_ahead_204)) ..) (fun _ h => h)
    | exact zPr.tail (S' := sX11_ahead) (by assumption) (mX11_ahead_204 ..) (fun _ h => h)
    | exact zPr.tail (S' := sX11_ahead) (by assumption) (mX11_ahead_199 ..) (fun _ h => h)
    | exact zPr.tail (S' := sX11_ahead) (by assumption) (mX11_ahead_186 ..) (fun _ h => h)
    | exact zPr.tail (S' := sX11_ahead) (by assumption) (mX11_ahead_176 ..) (fun _ h => h)
    | exact zPr.tail (S' := sX11_ahead) (by assumption) (mX11_ahead_135 ..) (fun _ h => h)
    | exact zPr.tail (S' := sX11_ahead) (by assumption) (mX11_ahead_130 ..) (fun _ h => h)
theorem mX11_ahead_41 (x1 : Int32) (σ : zS) : zPr (sX11_ahead σ.2.2) σ id (fX11_ahead_41 x1 σ) := by
  unfold fX11_ahead_41
  have hc := zSm.rfl (sX11_ahead σ.2.2) σ
  repeat' first
    | exact zPr.none
    | exact zPr.some (by assumption)
    | refine zPr.ite ?_ ?_
    | refine zPr.wI (by assumption) (by simp only [sX11_ahead, List.mem_cons, List.not_mem_nil, or_false]; omega) (fun _ _ => ?_)
    | refine zPr.wL (by assumption) (by simp only [sX11_ahead, List.mem_cons, List.not_mem_nil, or_false]; omega) (fun _ _ => ?_)
    | refine zPr.bI (by assumption) (by simp only [sX11_ahead, List.mem_cons, List.not_mem_nil, or_false]; omega) (fun _ _ => ?_)
    | refine zPr.bL (by assumption) (by simp only [sX11_ahead, List.mem_cons, List.not_mem_nil, or_false]; omega) (fun _ _ => ?_)
    | refine zPr.wC (by assumption) (by simp only [sX11_ahead, List.mem_cons, List.not_mem_nil, or_false]; omega) (fun _ _ => ?_)
    | refine zPr.aI (fun _ => ?_)
    | refine zPr.aL (fun _ => ?_)
    | refine zPr.gd ?_
    | refine zPr.bnr (fun _ => ?_)
    | refine zPr.bnv (fun _ => ?_)
    | exact zPr.tail (S' := sX11_ahead) (by assumption) (mX11_ahead_334 ..) (fun _ h => h)
    | exact zPr.tail (S' := sX11_ahead) (by assumption) (mX11_ahead_325 _ (by first | assumption | exact ih | (intros; apply ih) | (intros; apply mX11_ahead_204)) ..) (fun _ h => h)
    | exact zPr.tail (S' := sX11_ahead) (by assumption) (mX11_ahead_293 _ (by first | assumption | exact ih | (intros; apply ih) | (intros; apply mX11_ahead_204)) ..) (fun _ h => h)
    | exact zPr.tail (S' := sX11_ahead) (by assumption) (mX11_ahead_263 _ (by first | assumption | exact ih | (intros; apply ih) | (intros; apply mX11_ahead_204)) ..) (fun _ h => h)
    | exact zPr.tail (S' := sX11_ahead) (by assumption) (mX11_ahead_243 _ (by first | assumption | exact ih | (intros; apply ih) | (intros; apply mX11_ahead_204)) ..) (fun _ h => h)
    | exact zPr.tail (S' := sX11_ahead) (by assumption) (mX11_ahead_204 ..) (fun _ h => h)
    | exact zPr.tail (S' := sX11_ahead) (by assumption) (mX11_ahead_199 ..) (fun _ h => h)
    | exact zPr.tail (S' := sX11_ahead) (by assumption) (mX11_ahead_186 ..) (fun _ h => h)
    | exact zPr.tail (S' := sX11_ahead) (by assumption) (mX11_ahead_176 ..) (fun _ h => h)
    | exact zPr.tail (S' := sX11_ahead) (by assumption) (mX11_ahead_135 ..) (fun _ h => h)
    | exact zPr.tail (S' := sX11_ahead) (by assumption) (mX11_ahead_130 ..) (fun _ h => h)
    | exact zPr.tail (S' := sX11_ahead) (by assumption) (mX11_ahead_98 ..) (fun _ h => h)
theorem mX11_ahead_35 (r5 : Int32 → zS → Option zS) (hr5 : ∀ (x0 : Int32) (σ : zS), zPr (sX11_ahead σ.2.2) σ id (r5 x0 σ)) (x1 : Int32) (σ : zS) : zPr (sX11_ahead σ.2.2) σ id (fX11_ahead_35 r5 x1 σ) := by
  unfold fX11_ahead_35
  have hc := zSm.rfl (sX11_ahead σ.2.2) σ
  repeat' first
    | exact zPr.none
    | exact zPr.some (by assumption)
    | refine zPr.ite ?_ ?_
    | refine zPr.wI (by assumption) (by simp only [sX11_ahead, List.mem_cons, List.not_mem_nil, or_false]; omega) (fun _ _ => ?_)
    | refine zPr.wL (by assumption) (by simp only [sX11_ahead, List.mem_cons, List.not_mem_nil, or_false]; omega) (fun _ _ => ?_)
    | refine zPr.bI (by assumption) (by simp only [sX11_ahead, List.mem_cons, List.not_mem_nil, or_false]; omega) (fun _ _ => ?_)
    | refine zPr.bL (by assumption) (by simp only [sX11_ahead, List.mem_cons, List.not_mem_nil, or_false]; omega) (fun _ _ => ?_)
    | refine zPr.wC (by assumption) (by simp only [sX11_ahead, List.mem_cons, List.not_mem_nil, or_false]; omega) (fun _ _ => ?_)
    | refine zPr.aI (fun _ => ?_)
    | refine zPr.aL (fun _ => ?_)
    | refine zPr.gd ?_
    | refine zPr.bnr (fun _ => ?_)
    | refine zPr.bnv (fun _ => ?_)
    | exact zPr.tail (S' := sX11_ahead) (by assumption) (hr5 ..) (fun _ h => h)
    | exact zPr.tail (S' := sX11_ahead) (by assumption) (mX11_ahead_334 ..) (fun _ h => h)
    | exact zPr.tail (S' := sX11_ahead) (by assumption) (mX11_ahead_325 _ (by first | assumption | exact ih | (intros; apply ih) | (intros; apply mX11_ahead_204)) ..) (fun _ h => h)
    | exact zPr.tail (S' := sX11_ahead) (by assumption) (mX11_ahead_293 _ (by first | assumption | exact ih | (intros; apply ih) | (intros; apply mX11_ahead_204)) ..) (fun _ h => h)
    | exact zPr.tail (S' := sX11_ahead) (by assumption) (mX11_ahead_263 _ (by first | assumption | exact ih | (intros; apply ih) | (intros; apply mX11_ahead_204)) ..) (fun _ h => h)
    | exact zPr.tail (S' := sX11_ahead) (by assumption) (mX11_ahead_243 _ (by first | assumption | exact ih | (intros; apply ih) | (intros; apply mX11_ahead_204)) ..) (fun _ h => h)
    | exact zPr.tail (S' := sX11_ahead) (by assumption) (mX11_ahead_204 ..) (fun _ h => h)
    | exact zPr.tail (S' := sX11_ahead) (by assumption) (mX11_ahead_199 ..) (fun _ h => h)
    | exact zPr.tail (S' := sX11_ahead) (by assumption) (mX11_ahead_186 ..) (fun _ h => h)
    | exact zPr.tail (S' := sX11_ahead) (by assumption) (mX11_ahead_176 ..) (fun _ h => h)
    | exact zPr.tail (S' := sX11_ahead) (by assumption) (mX11_ahead_135 ..) (fun _ h => h)
    | exact zPr.tail (S' := sX11_ahead) (by assumption) (mX11_ahead_130 ..) (fun _ h => h)
    | exact zPr.tail (S' := sX11_ahead) (by assumption) (mX11_ahead_98 ..) (fun _ h => h)
    | exact zPr.tail (S' := sX11_ahead) (by assumption) (mX11_ahead_41 ..) (fun _ h => h)
theorem mX11_ahead_5 : ∀ (fuel : Nat) (x1 : Int32) (σ : zS), zPr (sX11_ahead σ.2.2) σ id (fX11_ahead_5 fuel x1 σ) := by
  intro fuel
  induction fuel with
  | zero => intro x1 σ; exact zPr.none
  | succ f ih =>
    intro x1 σ
    rw [fX11_ahead_5]
    have hc := zSm.rfl (sX11_ahead σ.2.2) σ
    repeat' first
      | exact zPr.none
      | exact zPr.some (by assumption)
      | refine zPr.ite ?_ ?_
      | refine zPr.wI (by assumption) (by simp only [sX11_ahead, List.mem_cons, List.not_mem_nil, or_false]; omega) (fun _ _ => ?_)
      | refine zPr.wL (by assumption) (by simp only [sX11_ahead, List.mem_cons, List.not_mem_nil, or_false]; omega) (fun _ _ => ?_)
      | refine zPr.bI (by assumption) (by simp only [sX11_ahead, List.mem_cons, List.not_mem_nil, or_false]; omega) (fun _ _ => ?_)
      | refine zPr.bL (by assumption) (by simp only [sX11_ahead, List.mem_cons, List.not_mem_nil, or_false]; omega) (fun _ _ => ?_)
      | refine zPr.wC (by assumption) (by simp only [sX11_ahead, List.mem_cons, List.not_mem_nil, or_false]; omega) (fun _ _ => ?_)
      | refine zPr.aI (fun _ => ?_)
      | refine zPr.aL (fun _ => ?_)
      | refine zPr.gd ?_
      | refine zPr.bnr (fun _ => ?_)
      | refine zPr.bnv (fun _ => ?_)
      | exact zPr.tail (S' := sX11_ahead) (by assumption) (ih ..) (fun _ h => h)
      | exact zPr.tail (S' := sX11_ahead) (by assumption) (mX11_ahead_334 ..) (fun _ h => h)
      | exact zPr.tail (S' := sX11_ahead) (by assumption) (mX11_ahead_325 _ (by first | assumption | exact ih | (intros; apply ih) | (intros; apply mX11_ahead_204)) ..) (fun _ h => h)
      | exact zPr.tail (S' := sX11_ahead) (by assumption) (mX11_ahead_293 _ (by first | assumption | exact ih | (intros; apply ih) | (intros; apply mX11_ahead_204)) ..) (fun _ h => h)
      | exact zPr.tail (S' := sX11_ahead) (by assumption) (mX11_ahead_263 _ (by first | assumption | exact ih | (intros; apply ih) | (intros; apply mX11_ahead_204)) ..) (fun _ h => h)
      | exact zPr.tail (S' := sX11_ahead) (by assumption) (mX11_ahead_243 _ (by first | assumption | exact ih | (intros; apply ih) | (intros; apply mX11_ahead_204)) ..) (fun _ h => h)
      | exact zPr.tail (S' := sX11_ahead) (by assumption) (mX11_ahead_204 ..) (fun _ h => h)
      | exact zPr.tail (S' := sX11_ahead) (by assumption) (mX11_ahead_199 ..) (fun _ h => h)
      | exact zPr.tail (S' := sX11_ahead) (by assumption) (mX11_ahead_186 ..) (fun _ h => h)
      | exact zPr.tail (S' := sX11_ahead) (by assumption) (mX11_ahead_176 ..) (fun _ h => h)
      | exact zPr.tail (S' := sX11_ahead) (by assumption) (mX11_ahead_135 ..) (fun _ h => h)
      | exact zPr.tail (S' := sX11_ahead) (by assumption) (mX11_ahead_130 ..) (fun _ h => h)
      | exact zPr.tail (S' := sX11_ahead) (by assumption) (mX11_ahead_98 ..) (fun _ h => h)
      | exact zPr.tail (S' := sX11_ahead) (by assumption) (mX11_ahead_41 ..) (fun _ h => h)
      | exact zPr.tail (S' := sX11_ahead) (by assumption) (mX11_ahead_35 _ (by first | assumption | exact ih | (intros; apply ih) | (intros; apply mX11_ahead_5)) ..) (fun _ h => h)
theorem mX11_ahead (σ : zS) : zPr (sX11_ahead σ.2.2) σ id (fX11_ahead σ) := by
  unfold fX11_ahead
  have hc := zSm.rfl (sX11_ahead σ.2.2) σ
  repeat' first
    | exact zPr.none
    | exact zPr.some (by assumption)
    | refine zPr.ite ?_ ?_
    | refine zPr.wI (by assumption) (by simp only [sX11_ahead, List.mem_cons, List.not_mem_nil, or_false]; omega) (fun _ _ => ?_)
    | refine zPr.wL (by assumption) (by simp only [sX11_ahead, List.mem_cons, List.not_mem_nil, or_false]; omega) (fun _ _ => ?_)
    | refine zPr.bI (by assumption) (by simp only [sX11_ahead, List.mem_cons, List.not_mem_nil, or_false]; omega) (fun _ _ => ?_)
    | refine zPr.bL (by assumption) (by simp only [sX11_ahead, List.mem_cons, List.not_mem_nil, or_false]; omega) (fun _ _ => ?_)
    | refine zPr.wC (by assumption) (by simp only [sX11_ahead, List.mem_cons, List.not_mem_nil, or_false]; omega) (fun _ _ => ?_)
    | refine zPr.aI (fun _ => ?_)
    | refine zPr.aL (fun _ => ?_)
    | refine zPr.gd ?_
    | refine zPr.bnr (fun _ => ?_)
    | refine zPr.bnv (fun _ => ?_)
    | exact zPr.tail (S' := sX11_ahead) (by assumption) (mX11_ahead_334 ..) (fun _ h => h)
    | exact zPr.tail (S' := sX11_ahead) (by assumption) (mX11_ahead_325 _ (by first | assumption | exact ih | (intros; apply ih) | (intros; apply mX11_ahead_204)) ..) (fun _ h => h)
    | exact zPr.tail (S' := sX11_ahead) (by assumption) (mX11_ahead_293 _ (by first | assumption | exact ih | (intros; apply ih) | (intros; apply mX11_ahead_204)) ..) (fun _ h => h)
    | exact zPr.tail (S' := sX11_ahead) (by assumption) (mX11_ahead_263 _ (by first | assumption | exact ih | (intros; apply ih) | (intros; apply mX11_ahead_204)) ..) (fun _ h => h)
    | exact zPr.tail (S' := sX11_ahead) (by assumption) (mX11_ahead_243 _ (by first | assumption | exact ih | (intros; apply ih) | (intros; apply mX11_ahead_204)) ..) (fun _ h => h)
    | exact zPr.tail (S' := sX11_ahead) (by assumption) (mX11_ahead_204 ..) (fun _ h => h)
    | exact zPr.tail (S' := sX11_ahead) (by assumption) (mX11_ahead_199 ..) (fun _ h => h)
    | exact zPr.tail (S' := sX11_ahead) (by assumption) (mX11_ahead_186 ..) (fun _ h => h)
    | exact zPr.tail (S' := sX11_ahead) (by assumption) (mX11_ahead_176 ..) (fun _ h => h)
    | exact zPr.tail (S' := sX11_ahead) (by assumption) (mX11_ahead_135 ..) (fun _ h => h)
    | exact zPr.tail (S' := sX11_ahead) (by assumption) (mX11_ahead_130 ..) (fun _ h => h)
    | exact zPr.tail (S' := sX11_ahead) (by assumption) (mX11_ahead_98 ..) (fun _ h => h)
    | exact zPr.tail (S' := sX11_ahead) (by assumption) (mX11_ahead_41 ..) (fun _ h => h)
    | exact zPr.tail (S' := sX11_ahead) (by assumption) (mX11_ahead_35 _ (by first | assumption | exact ih | (intros; apply ih) | (intros; apply mX11_ahead_5)) ..) (fun _ h => h)
    | exact zPr.tail (S' := sX11_ahead) (by assumption) (mX11_ahead_5 ..) (fun _ h => h)
def sX11_must (t : Bool × Bool × Bool) : List Nat := [56]
theorem mX11_must_21 (σ : zS) : zPr (sX11_must σ.2.2) σ id (fX11_must_21 σ) := by
  unfold fX11_must_21
  have hc := zSm.rfl (sX11_must σ.2.2) σ
  repeat' first
    | exact zPr.none
    | exact zPr.some (by assumption)
    | refine zPr.ite ?_ ?_
    | refine zPr.wI (by assumption) (by simp only [sX11_must, List.mem_cons, List.not_mem_nil, or_false]; omega) (fun _ _ => ?_)
    | refine zPr.wL (by assumption) (by simp only [sX11_must, List.mem_cons, List.not_mem_nil, or_false]; omega) (fun _ _ => ?_)
    | refine zPr.bI (by assumption) (by simp only [sX11_must, List.mem_cons, List.not_mem_nil, or_false]; omega) (fun _ _ => ?_)
    | refine zPr.bL (by assumption) (by simp only [sX11_must, List.mem_cons, List.not_mem_nil, or_false]; omega) (fun _ _ => ?_)
    | refine zPr.wC (by assumption) (by simp only [sX11_must, List.mem_cons, List.not_mem_nil, or_false]; omega) (fun _ _ => ?_)
    | refine zPr.aI (fun _ => ?_)
    | refine zPr.aL (fun _ => ?_)
    | refine zPr.gd ?_
    | refine zPr.bw (S' := sX11_ahead) (by assumption) (mX11_ahead ..) (fun p hp => by simp only [sX11_ahead, sX11_must, List.mem_cons, List.not_mem_nil, or_false] at hp ⊢ <;> omega) (fun _ _ => ?_)
    | refine zPr.bw (S' := sX11_blame) (by assumption) (mX11_blame ..) (fun p hp => by simp only [sX11_blame, sX11_must, List.mem_cons, List.not_mem_nil, or_false] at hp ⊢ <;> omega) (fun _ _ => ?_)
    | refine zPr.bw (S' := sX11_lex) (by assumption) (mX11_lex ..) (fun p hp => by simp only [sX11_lex, sX11_must, List.mem_cons, List.not_mem_nil, or_false] at hp ⊢ <;> omega) (fun _ _ => ?_)
    | refine zPr.bnr (fun _ => ?_)
    | refine zPr.bnv (fun _ => ?_)
theorem mX11_must (p1 : Int32) (σ : zS) : zPr (sX11_must σ.2.2) σ id (fX11_must p1 σ) := by
  unfold fX11_must
  have hc := zSm.rfl (sX11_must σ.2.2) σ
  repeat' first
    | exact zPr.none
    | exact zPr.some (by assumption)
    | refine zPr.ite ?_ ?_
    | refine zPr.wI (by assumption) (by simp only [sX11_must, List.mem_cons, List.not_mem_nil, or_false]; omega) (fun _ _ => ?_)
    | refine zPr.wL (by assumption) (by simp only [sX11_must, List.mem_cons, List.not_mem_nil, or_false]; omega) (fun _ _ => ?_)
    | refine zPr.bI (by assumption) (by simp only [sX11_must, List.mem_cons, List.not_mem_nil, or_false]; omega) (fun _ _ => ?_)
    | refine zPr.bL (by assumption) (by simp only [sX11_must, List.mem_cons, List.not_mem_nil, or_false]; omega) (fun _ _ => ?_)
    | refine zPr.wC (by assumption) (by simp only [sX11_must, List.mem_cons, List.not_mem_nil, or_false]; omega) (fun _ _ => ?_)
    | refine zPr.aI (fun _ => ?_)
    | refine zPr.aL (fun _ => ?_)
    | refine zPr.gd ?_
    | refine zPr.bw (S' := sX11_ahead) (by assumption) (mX11_ahead ..) (fun p hp => by simp only [sX11_ahead, sX11_must, List.mem_cons, List.not_mem_nil, or_false] at hp ⊢ <;> omega) (fun _ _ => ?_)
    | refine zPr.bw (S' := sX11_blame) (by assumption) (mX11_blame ..) (fun p hp => by simp only [sX11_blame, sX11_must, List.mem_cons, List.not_mem_nil, or_false] at hp ⊢ <;> omega) (fun _ _ => ?_)
    | refine zPr.bw (S' := sX11_lex) (by assumption) (mX11_lex ..) (fun p hp => by simp only [sX11_lex, sX11_must, List.mem_cons, List.not_mem_nil, or_false] at hp ⊢ <;> omega) (fun _ _ => ?_)
    | refine zPr.bnr (fun _ => ?_)
    | refine zPr.bnv (fun _ => ?_)
    | exact zPr.tail (S' := sX11_must) (by assumption) (mX11_must_21 ..) (fun _ h => h)
def sX11_lookedAt (t : Bool × Bool × Bool) : List Nat := [56]
theorem mX11_lookedAt_58 (σ : zS) : zPr (sX11_lookedAt σ.2.2) σ Prod.snd (fX11_lookedAt_58 σ) := by
  unfold fX11_lookedAt_58
  have hc := zSm.rfl (sX11_lookedAt σ.2.2) σ
  repeat' first
    | exact zPr.none
    | exact zPr.some (by assumption)
    | refine zPr.ite ?_ ?_
    | refine zPr.wI (by assumption) (by simp only [sX11_lookedAt, List.mem_cons, List.not_mem_nil, or_false]; omega) (fun _ _ => ?_)
    | refine zPr.wL (by assumption) (by simp only [sX11_lookedAt, List.mem_cons, List.not_mem_nil, or_false]; omega) (fun _ _ => ?_)
    | refine zPr.bI (by assumption) (by simp only [sX11_lookedAt, List.mem_cons, List.not_mem_nil, or_false]; omega) (fun _ _ => ?_)
    | refine zPr.bL (by assumption) (by simp only [sX11_lookedAt, List.mem_cons, List.not_mem_nil, or_false]; omega) (fun _ _ => ?_)
    | refine zPr.wC (by assumption) (by simp only [sX11_lookedAt, List.mem_cons, List.not_mem_nil, or_false]; omega) (fun _ _ => ?_)
    | refine zPr.aI (fun _ => ?_)
    | refine zPr.aL (fun _ => ?_)
    | refine zPr.gd ?_
    | refine zPr.bw (S' := sX11_blame) (by assumption) (mX11_blame ..) (fun p hp => by simp only [sX11_blame, sX11_lookedAt, List.mem_cons, List.not_mem_nil, or_false] at hp ⊢ <;> omega) (fun _ _ => ?_)
    | refine zPr.bw (S' := sX11_lex) (by assumption) (mX11_lex ..) (fun p hp => by simp only [sX11_lex, sX11_lookedAt, List.mem_cons, List.not_mem_nil, or_false] at hp ⊢ <;> omega) (fun _ _ => ?_)
    | refine zPr.bnr (fun _ => ?_)
    | refine zPr.bnv (fun _ => ?_)
theorem mX11_lookedAt_30 (x1 : Int32) (x2 : Int32) (σ : zS) : zPr (sX11_lookedAt σ.2.2) σ Prod.snd (fX11_lookedAt_30 x1 x2 σ) := by
  unfold fX11_lookedAt_30
  have hc := zSm.rfl (sX11_lookedAt σ.2.2) σ
  repeat' first
    | exact zPr.none
    | exact zPr.some (by assumption)
    | refine zPr.ite ?_ ?_
    | refine zPr.wI (by assumption) (by simp only [sX11_lookedAt, List.mem_cons, List.not_mem_nil, or_false]; omega) (fun _ _ => ?_)
    | refine zPr.wL (by assumption) (by simp only [sX11_lookedAt, List.mem_cons, List.not_mem_nil, or_false]; omega) (fun _ _ => ?_)
    | refine zPr.bI (by assumption) (by simp only [sX11_lookedAt, List.mem_cons, List.not_mem_nil, or_false]; omega) (fun _ _ => ?_)
    | refine zPr.bL (by assumption) (by simp only [sX11_lookedAt, List.mem_cons, List.not_mem_nil, or_false]; omega) (fun _ _ => ?_)
    | refine zPr.wC (by assumption) (by simp only [sX11_lookedAt, List.mem_cons, List.not_mem_nil, or_false]; omega) (fun _ _ => ?_)
    | refine zPr.aI (fun _ => ?_)
    | refine zPr.aL (fun _ => ?_)
    | refine zPr.gd ?_
    | refine zPr.bw (S' := sX11_blame) (by assumption) (mX11_blame ..) (fun p hp => by simp only [sX11_blame, sX11_lookedAt, List.mem_cons, List.not_mem_nil, or_false] at hp ⊢ <;> omega) (fun _ _ => ?_)
    | refine zPr.bw (S' := sX11_lex) (by assumption) (mX11_lex ..) (fun p hp => by simp only [sX11_lex, sX11_lookedAt, List.mem_cons, List.not_mem_nil, or_false] at hp ⊢ <;> omega) (fun _ _ => ?_)
    | refine zPr.bnr (fun _ => ?_)
    | refine zPr.bnv (fun _ => ?_)
    | exact zPr.tail (S' := sX11_lookedAt) (by assumption) (mX11_lookedAt_58 ..) (fun _ h => h)
theorem mX11_lookedAt (p1 : Int32) (p2 : Int32) (σ : zS) : zPr (sX11_lookedAt σ.2.2) σ Prod.snd (fX11_lookedAt p1 p2 σ) := by
  unfold fX11_lookedAt
  have hc := zSm.rfl (sX11_lookedAt σ.2.2) σ
  repeat' first
    | exact zPr.none
    | exact zPr.some (by assumption)
    | refine zPr.ite ?_ ?_
    | refine zPr.wI (by assumption) (by simp only [sX11_lookedAt, List.mem_cons, List.not_mem_nil, or_false]; omega) (fun _ _ => ?_)
    | refine zPr.wL (by assumption) (by simp only [sX11_lookedAt, List.mem_cons, List.not_mem_nil, or_false]; omega) (fun _ _ => ?_)
    | refine zPr.bI (by assumption) (by simp only [sX11_lookedAt, List.mem_cons, List.not_mem_nil, or_false]; omega) (fun _ _ => ?_)
    | refine zPr.bL (by assumption) (by simp only [sX11_lookedAt, List.mem_cons, List.not_mem_nil, or_false]; omega) (fun _ _ => ?_)
    | refine zPr.wC (by assumption) (by simp only [sX11_lookedAt, List.mem_cons, List.not_mem_nil, or_false]; omega) (fun _ _ => ?_)
    | refine zPr.aI (fun _ => ?_)
    | refine zPr.aL (fun _ => ?_)
    | refine zPr.gd ?_
    | refine zPr.bw (S' := sX11_blame) (by assumption) (mX11_blame ..) (fun p hp => by simp only [sX11_blame, sX11_lookedAt, List.mem_cons, List.not_mem_nil, or_false] at hp ⊢ <;> omega) (fun _ _ => ?_)
    | refine zPr.bw (S' := sX11_lex) (by assumption) (mX11_lex ..) (fun p hp => by simp only [sX11_lex, sX11_lookedAt, List.mem_cons, List.not_mem_nil, or_false] at hp ⊢ <;> omega) (fun _ _ => ?_)
    | refine zPr.bnr (fun _ => ?_)
    | refine zPr.bnv (fun _ => ?_)
    | exact zPr.tail (S' := sX11_lookedAt) (by assumption) (mX11_lookedAt_58 ..) (fun _ h => h)
    | exact zPr.tail (S' := sX11_lookedAt) (by assumption) (mX11_lookedAt_30 ..) (fun _ h => h)
def sX11_number (t : Bool × Bool × Bool) : List Nat := [56]
theorem mX11_number (p1 : Int32) (p2 : Int32) (σ : zS) : zPr (sX11_number σ.2.2) σ Prod.snd (fX11_number p1 p2 σ) := by
  unfold fX11_number
  have hc := zSm.rfl (sX11_number σ.2.2) σ
  repeat' first
    | exact zPr.none
    | exact zPr.some (by assumption)
    | refine zPr.ite ?_ ?_
    | refine zPr.wI (by assumption) (by simp only [sX11_number, List.mem_cons, List.not_mem_nil, or_false]; omega) (fun _ _ => ?_)
    | refine zPr.wL (by assumption) (by simp only [sX11_number, List.mem_cons, List.not_mem_nil, or_false]; omega) (fun _ _ => ?_)
    | refine zPr.bI (by assumption) (by simp only [sX11_number, List.mem_cons, List.not_mem_nil, or_false]; omega) (fun _ _ => ?_)
    | refine zPr.bL (by assumption) (by simp only [sX11_number, List.mem_cons, List.not_mem_nil, or_false]; omega) (fun _ _ => ?_)
    | refine zPr.wC (by assumption) (by simp only [sX11_number, List.mem_cons, List.not_mem_nil, or_false]; omega) (fun _ _ => ?_)
    | refine zPr.aI (fun _ => ?_)
    | refine zPr.aL (fun _ => ?_)
    | refine zPr.gd ?_
    | refine zPr.bw (S' := sX11_ahead) (by assumption) (mX11_ahead ..) (fun p hp => by simp only [sX11_ahead, sX11_number, List.mem_cons, List.not_mem_nil, or_false] at hp ⊢ <;> omega) (fun _ _ => ?_)
    | refine zPr.bc (S' := sX11_lookedAt) (by assumption) (mX11_lookedAt ..) (fun p hp => by simp only [sX11_lookedAt, sX11_number, List.mem_cons, List.not_mem_nil, or_false] at hp ⊢ <;> omega) (fun _ _ _ => ?_)
    | refine zPr.bnr (fun _ => ?_)
    | refine zPr.bnv (fun _ => ?_)
def sX11_add (t : Bool × Bool × Bool) : List Nat := [56, 74, 75]
theorem mX11_add (p1 : Int32) (p2 : Int32) (σ : zS) : zPr (sX11_add σ.2.2) σ id (fX11_add p1 p2 σ) := by
  unfold fX11_add
  have hc := zSm.rfl (sX11_add σ.2.2) σ
  repeat' first
    | exact zPr.none
    | exact zPr.some (by assumption)
    | refine zPr.ite ?_ ?_
    | refine zPr.wI (by assumption) (by simp only [sX11_add, List.mem_cons, List.not_mem_nil, or_false]; omega) (fun _ _ => ?_)
    | refine zPr.wL (by assumption) (by simp only [sX11_add, List.mem_cons, List.not_mem_nil, or_false]; omega) (fun _ _ => ?_)
    | refine zPr.bI (by assumption) (by simp only [sX11_add, List.mem_cons, List.not_mem_nil, or_false]; omega) (fun _ _ => ?_)
    | refine zPr.bL (by assumption) (by simp only [sX11_add, List.mem_cons, List.not_mem_nil, or_false]; omega) (fun _ _ => ?_)
    | refine zPr.wC (by assumption) (by simp only [sX11_add, List.mem_cons, List.not_mem_nil, or_false]; omega) (fun _ _ => ?_)
    | refine zPr.aI (fun _ => ?_)
    | refine zPr.aL (fun _ => ?_)
    | refine zPr.gd ?_
    | refine zPr.bnr (fun _ => ?_)
    | refine zPr.bnv (fun _ => ?_)
def sX11_joins (t : Bool × Bool × Bool) : List Nat := [56, 74, 75]
theorem mX11_joins_0 : ∀ (fuel : Nat) (x1 : Int32) (σ : zS), zPr (sX11_joins σ.2.2) σ id (fX11_joins_0 fuel x1 σ) := by
  intro fuel
  induction fuel with
  | zero => intro x1 σ; exact zPr.none
  | succ f ih =>
    intro x1 σ
    rw [fX11_joins_0]
    have hc := zSm.rfl (sX11_joins σ.2.2) σ
    repeat' first
      | exact zPr.none
      | exact zPr.some (by assumption)
      | refine zPr.ite ?_ ?_
      | refine zPr.wI (by assumption) (by simp only [sX11_joins, List.mem_cons, List.not_mem_nil, or_false]; omega) (fun _ _ => ?_)
      | refine zPr.wL (by assumption) (by simp only [sX11_joins, List.mem_cons, List.not_mem_nil, or_false]; omega) (fun _ _ => ?_)
      | refine zPr.bI (by assumption) (by simp only [sX11_joins, List.mem_cons, List.not_mem_nil, or_false]; omega) (fun _ _ => ?_)
      | refine zPr.bL (by assumption) (by simp only [sX11_joins, List.mem_cons, List.not_mem_nil, or_false]; omega) (fun _ _ => ?_)
      | refine zPr.wC (by assumption) (by simp only [sX11_joins, List.mem_cons, List.not_mem_nil, or_false]; omega) (fun _ _ => ?_)
      | refine zPr.aI (fun _ => ?_)
      | refine zPr.aL (fun _ => ?_)
      | refine zPr.gd ?_
      | refine zPr.bw (S' := sX11_add) (by assumption) (mX11_add ..) (fun p hp => by simp only [sX11_add, sX11_joins, List.mem_cons, List.not_mem_nil, or_false] at hp ⊢ <;> omega) (fun _ _ => ?_)
      | refine zPr.bnr (fun _ => ?_)
      | refine zPr.bnv (fun _ => ?_)
      | exact zPr.tail (S' := sX11_joins) (by assumption) (ih ..) (fun _ h => h)
theorem mX11_joins (p1 : Int32) (σ : zS) : zPr (sX11_joins σ.2.2) σ id (fX11_joins p1 σ) := by
  unfold fX11_joins
  have hc := zSm.rfl (sX11_joins σ.2.2) σ
  repeat' first
    | exact zPr.none
    | exact zPr.some (by assumption)
    | refine zPr.ite ?_ ?_
    | refine zPr.wI (by assumption) (by simp only [sX11_joins, List.mem_cons, List.not_mem_nil, or_false]; omega) (fun _ _ => ?_)
    | refine zPr.wL (by assumption) (by simp only [sX11_joins, List.mem_cons, List.not_mem_nil, or_false]; omega) (fun _ _ => ?_)
    | refine zPr.bI (by assumption) (by simp only [sX11_joins, List.mem_cons, List.not_mem_nil, or_false]; omega) (fun _ _ => ?_)
    | refine zPr.bL (by assumption) (by simp only [sX11_joins, List.mem_cons, List.not_mem_nil, or_false]; omega) (fun _ _ => ?_)
    | refine zPr.wC (by assumption) (by simp only [sX11_joins, List.mem_cons, List.not_mem_nil, or_false]; omega) (fun _ _ => ?_)
    | refine zPr.aI (fun _ => ?_)
    | refine zPr.aL (fun _ => ?_)
    | refine zPr.gd ?_
    | refine zPr.bw (S' := sX11_add) (by assumption) (mX11_add ..) (fun p hp => by simp only [sX11_add, sX11_joins, List.mem_cons, List.not_mem_nil, or_false] at hp ⊢ <;> omega) (fun _ _ => ?_)
    | refine zPr.bnr (fun _ => ?_)
    | refine zPr.bnv (fun _ => ?_)
    | exact zPr.tail (S' := sX11_joins) (by assumption) (mX11_joins_0 ..) (fun _ h => h)
def sX11_holdsBack (t : Bool × Bool × Bool) : List Nat := [56, 83]
theorem mX11_holdsBack (p1 : Int32) (σ : zS) : zPr (sX11_holdsBack σ.2.2) σ id (fX11_holdsBack p1 σ) := by
  unfold fX11_holdsBack
  have hc := zSm.rfl (sX11_holdsBack σ.2.2) σ
  repeat' first
    | exact zPr.none
    | exact zPr.some (by assumption)
    | refine zPr.ite ?_ ?_
    | refine zPr.wI (by assumption) (by simp only [sX11_holdsBack, List.mem_cons, List.not_mem_nil, or_false]; omega) (fun _ _ => ?_)
    | refine zPr.wL (by assumption) (by simp only [sX11_holdsBack, List.mem_cons, List.not_mem_nil, or_false]; omega) (fun _ _ => ?_)
    | refine zPr.bI (by assumption) (by simp only [sX11_holdsBack, List.mem_cons, List.not_mem_nil, or_false]; omega) (fun _ _ => ?_)
    | refine zPr.bL (by assumption) (by simp only [sX11_holdsBack, List.mem_cons, List.not_mem_nil, or_false]; omega) (fun _ _ => ?_)
    | refine zPr.wC (by assumption) (by simp only [sX11_holdsBack, List.mem_cons, List.not_mem_nil, or_false]; omega) (fun _ _ => ?_)
    | refine zPr.aI (fun _ => ?_)
    | refine zPr.aL (fun _ => ?_)
    | refine zPr.gd ?_
    | refine zPr.bnr (fun _ => ?_)
    | refine zPr.bnv (fun _ => ?_)
def sX11_pushes (t : Bool × Bool × Bool) : List Nat := [56, 78, 79, 80, 82]
theorem mX11_pushes (p1 : Int32) (σ : zS) : zPr (sX11_pushes σ.2.2) σ id (fX11_pushes p1 σ) := by
  unfold fX11_pushes
  have hc := zSm.rfl (sX11_pushes σ.2.2) σ
  repeat' first
    | exact zPr.none
    | exact zPr.some (by assumption)
    | refine zPr.ite ?_ ?_
    | refine zPr.wI (by assumption) (by simp only [sX11_pushes, List.mem_cons, List.not_mem_nil, or_false]; omega) (fun _ _ => ?_)
    | refine zPr.wL (by assumption) (by simp only [sX11_pushes, List.mem_cons, List.not_mem_nil, or_false]; omega) (fun _ _ => ?_)
    | refine zPr.bI (by assumption) (by simp only [sX11_pushes, List.mem_cons, List.not_mem_nil, or_false]; omega) (fun _ _ => ?_)
    | refine zPr.bL (by assumption) (by simp only [sX11_pushes, List.mem_cons, List.not_mem_nil, or_false]; omega) (fun _ _ => ?_)
    | refine zPr.wC (by assumption) (by simp only [sX11_pushes, List.mem_cons, List.not_mem_nil, or_false]; omega) (fun _ _ => ?_)
    | refine zPr.aI (fun _ => ?_)
    | refine zPr.aL (fun _ => ?_)
    | refine zPr.gd ?_
    | refine zPr.bnr (fun _ => ?_)
    | refine zPr.bnv (fun _ => ?_)
def sX11_opens (t : Bool × Bool × Bool) : List Nat := [56, 78, 79, 80, 82]
theorem mX11_opens_18 (x1 : Int32) (σ : zS) : zPr (sX11_opens σ.2.2) σ id (fX11_opens_18 x1 σ) := by
  unfold fX11_opens_18
  have hc := zSm.rfl (sX11_opens σ.2.2) σ
  repeat' first
    | exact zPr.none
    | exact zPr.some (by assumption)
    | refine zPr.ite ?_ ?_
    | refine zPr.wI (by assumption) (by simp only [sX11_opens, List.mem_cons, List.not_mem_nil, or_false]; omega) (fun _ _ => ?_)
    | refine zPr.wL (by assumption) (by simp only [sX11_opens, List.mem_cons, List.not_mem_nil, or_false]; omega) (fun _ _ => ?_)
    | refine zPr.bI (by assumption) (by simp only [sX11_opens, List.mem_cons, List.not_mem_nil, or_false]; omega) (fun _ _ => ?_)
    | refine zPr.bL (by assumption) (by simp only [sX11_opens, List.mem_cons, List.not_mem_nil, or_false]; omega) (fun _ _ => ?_)
    | refine zPr.wC (by assumption) (by simp only [sX11_opens, List.mem_cons, List.not_mem_nil, or_false]; omega) (fun _ _ => ?_)
    | refine zPr.aI (fun _ => ?_)
    | refine zPr.aL (fun _ => ?_)
    | refine zPr.gd ?_
    | refine zPr.bw (S' := sX11_ahead) (by assumption) (mX11_ahead ..) (fun p hp => by simp only [sX11_ahead, sX11_opens, List.mem_cons, List.not_mem_nil, or_false] at hp ⊢ <;> omega) (fun _ _ => ?_)
    | refine zPr.bw (S' := sX11_blame) (by assumption) (mX11_blame ..) (fun p hp => by simp only [sX11_blame, sX11_opens, List.mem_cons, List.not_mem_nil, or_false] at hp ⊢ <;> omega) (fun _ _ => ?_)
    | refine zPr.bw (S' := sX11_pushes) (by assumption) (mX11_pushes ..) (fun p hp => by simp only [sX11_pushes, sX11_opens, List.mem_cons, List.not_mem_nil, or_false] at hp ⊢ <;> omega) (fun _ _ => ?_)
    | refine zPr.bnr (fun _ => ?_)
    | refine zPr.bnv (fun _ => ?_)
theorem mX11_opens (p1 : Int32) (σ : zS) : zPr (sX11_opens σ.2.2) σ id (fX11_opens p1 σ) := by
  unfold fX11_opens
  have hc := zSm.rfl (sX11_opens σ.2.2) σ
  repeat' first
    | exact zPr.none
    | exact zPr.some (by assumption)
    | refine zPr.ite ?_ ?_
    | refine zPr.wI (by assumption) (by simp only [sX11_opens, List.mem_cons, List.not_mem_nil, or_false]; omega) (fun _ _ => ?_)
    | refine zPr.wL (by assumption) (by simp only [sX11_opens, List.mem_cons, List.not_mem_nil, or_false]; omega) (fun _ _ => ?_)
    | refine zPr.bI (by assumption) (by simp only [sX11_opens, List.mem_cons, List.not_mem_nil, or_false]; omega) (fun _ _ => ?_)
    | refine zPr.bL (by assumption) (by simp only [sX11_opens, List.mem_cons, List.not_mem_nil, or_false]; omega) (fun _ _ => ?_)
    | refine zPr.wC (by assumption) (by simp only [sX11_opens, List.mem_cons, List.not_mem_nil, or_false]; omega) (fun _ _ => ?_)
    | refine zPr.aI (fun _ => ?_)
    | refine zPr.aL (fun _ => ?_)
    | refine zPr.gd ?_
    | refine zPr.bw (S' := sX11_ahead) (by assumption) (mX11_ahead ..) (fun p hp => by simp only [sX11_ahead, sX11_opens, List.mem_cons, List.not_mem_nil, or_false] at hp ⊢ <;> omega) (fun _ _ => ?_)
    | refine zPr.bw (S' := sX11_blame) (by assumption) (mX11_blame ..) (fun p hp => by simp only [sX11_blame, sX11_opens, List.mem_cons, List.not_mem_nil, or_false] at hp ⊢ <;> omega) (fun _ _ => ?_)
    | refine zPr.bw (S' := sX11_pushes) (by assumption) (mX11_pushes ..) (fun p hp => by simp only [sX11_pushes, sX11_opens, List.mem_cons, List.not_mem_nil, or_false] at hp ⊢ <;> omega) (fun _ _ => ?_)
    | refine zPr.bnr (fun _ => ?_)
    | refine zPr.bnv (fun _ => ?_)
    | exact zPr.tail (S' := sX11_opens) (by assumption) (mX11_opens_18 ..) (fun _ h => h)
def sX11_operand (t : Bool × Bool × Bool) : List Nat := [56, 74, 75, 78, 79, 80, 81, 82, 83]
theorem mX11_operand_289 (x3 : Int32) (s0 : Int32) (σ : zS) : zPr (sX11_operand σ.2.2) σ Prod.snd (fX11_operand_289 x3 s0 σ) := by
  unfold fX11_operand_289
  have hc := zSm.rfl (sX11_operand σ.2.2) σ
  repeat' first
    | exact zPr.none
    | exact zPr.some (by assumption)
    | refine zPr.ite ?_ ?_
    | refine zPr.wI (by assumption) (by simp only [sX11_operand, List.mem_cons, List.not_mem_nil, or_false]; omega) (fun _ _ => ?_)
    | refine zPr.wL (by assumption) (by simp only [sX11_operand, List.mem_cons, List.not_mem_nil, or_false]; omega) (fun _ _ => ?_)
    | refine zPr.bI (by assumption) (by simp only [sX11_operand, List.mem_cons, List.not_mem_nil, or_false]; omega) (fun _ _ => ?_)
    | refine zPr.bL (by assumption) (by simp only [sX11_operand, List.mem_cons, List.not_mem_nil, or_false]; omega) (fun _ _ => ?_)
    | refine zPr.wC (by assumption) (by simp only [sX11_operand, List.mem_cons, List.not_mem_nil, or_false]; omega) (fun _ _ => ?_)
    | refine zPr.aI (fun _ => ?_)
    | refine zPr.aL (fun _ => ?_)
    | refine zPr.gd ?_
    | refine zPr.bw (S' := sX11_add) (by assumption) (mX11_add ..) (fun p hp => by simp only [sX11_add, sX11_operand, List.mem_cons, List.not_mem_nil, or_false] at hp ⊢ <;> omega) (fun _ _ => ?_)
    | refine zPr.bw (S' := sX11_ahead) (by assumption) (mX11_ahead ..) (fun p hp => by simp only [sX11_ahead, sX11_operand, List.mem_cons, List.not_mem_nil, or_false] at hp ⊢ <;> omega) (fun _ _ => ?_)
    | refine zPr.bw (S' := sX11_blame) (by assumption) (mX11_blame ..) (fun p hp => by simp only [sX11_blame, sX11_operand, List.mem_cons, List.not_mem_nil, or_false] at hp ⊢ <;> omega) (fun _ _ => ?_)
    | refine zPr.bw (S' := sX11_holdsBack) (by assumption) (mX11_holdsBack ..) (fun p hp => by simp only [sX11_holdsBack, sX11_operand, List.mem_cons, List.not_mem_nil, or_false] at hp ⊢ <;> omega) (fun _ _ => ?_)
    | refine zPr.bw (S' := sX11_lex) (by assumption) (mX11_lex ..) (fun p hp => by simp only [sX11_lex, sX11_operand, List.mem_cons, List.not_mem_nil, or_false] at hp ⊢ <;> omega) (fun _ _ => ?_)
    | refine zPr.bw (S' := sX11_opens) (by assumption) (mX11_opens ..) (fun p hp => by simp only [sX11_opens, sX11_operand, List.mem_cons, List.not_mem_nil, or_false] at hp ⊢ <;> omega) (fun _ _ => ?_)
    | refine zPr.bnr (fun _ => ?_)
    | refine zPr.bnv (fun _ => ?_)
theorem mX11_operand_276 (x3 : Int32) (σ : zS) : zPr (sX11_operand σ.2.2) σ Prod.snd (fX11_operand_276 x3 σ) := by
  unfold fX11_operand_276
  have hc := zSm.rfl (sX11_operand σ.2.2) σ
  repeat' first
    | exact zPr.none
    | exact zPr.some (by assumption)
    | refine zPr.ite ?_ ?_
    | refine zPr.wI (by assumption) (by simp only [sX11_operand, List.mem_cons, List.not_mem_nil, or_false]; omega) (fun _ _ => ?_)
    | refine zPr.wL (by assumption) (by simp only [sX11_operand, List.mem_cons, List.not_mem_nil, or_false]; omega) (fun _ _ => ?_)
    | refine zPr.bI (by assumption) (by simp only [sX11_operand, List.mem_cons, List.not_mem_nil, or_false]; omega) (fun _ _ => ?_)
    | refine zPr.bL (by assumption) (by simp only [sX11_operand, List.mem_cons, List.not_mem_nil, or_false]; omega) (fun _ _ => ?_)
    | refine zPr.wC (by assumption) (by simp only [sX11_operand, List.mem_cons, List.not_mem_nil, or_false]; omega) (fun _ _ => ?_)
    | refine zPr.aI (fun _ => ?_)
    | refine zPr.aL (fun _ => ?_)
    | refine zPr.gd ?_
    | refine zPr.bw (S' := sX11_add) (by assumption) (mX11_add ..) (fun p hp => by simp only [sX11_add, sX11_operand, List.mem_cons, List.not_mem_nil, or_false] at hp ⊢ <;> omega) (fun _ _ => ?_)
    | refine zPr.bw (S' := sX11_ahead) (by assumption) (mX11_ahead ..) (fun p hp => by simp only [sX11_ahead, sX11_operand, List.mem_cons, List.not_mem_nil, or_false] at hp ⊢ <;> omega) (fun _ _ => ?_)
    | refine zPr.bw (S' := sX11_blame) (by assumption) (mX11_blame ..) (fun p hp => by simp only [sX11_blame, sX11_operand, List.mem_cons, List.not_mem_nil, or_false] at hp ⊢ <;> omega) (fun _ _ => ?_)
    | refine zPr.bw (S' := sX11_holdsBack) (by assumption) (mX11_holdsBack ..) (fun p hp => by simp only [sX11_holdsBack, sX11_operand, List.mem_cons, List.not_mem_nil, or_false] at hp ⊢ <;> omega) (fun _ _ => ?_)
    | refine zPr.bw (S' := sX11_lex) (by assumption) (mX11_lex ..) (fun p hp => by simp only [sX11_lex, sX11_operand, List.mem_cons, List.not_mem_nil, or_false] at hp ⊢ <;> omega) (fun _ _ => ?_)
    | refine zPr.bw (S' := sX11_opens) (by assumption) (mX11_opens ..) (fun p hp => by simp only [sX11_opens, sX11_operand, List.mem_cons, List.not_mem_nil, or_false] at hp ⊢ <;> omega) (fun _ _ => ?_)
    | refine zPr.bnr (fun _ => ?_)
    | refine zPr.bnv (fun _ => ?_)
    | exact zPr.tail (S' := sX11_operand) (by assumption) (mX11_operand_289 ..) (fun _ h => h)
theorem mX11_operand_249 (s0 : Int32) (σ : zS) : zPr (sX11_operand σ.2.2) σ Prod.snd (fX11_operand_249 s0 σ) := by
  unfold fX11_operand_249
  have hc := zSm.rfl (sX11_operand σ.2.2) σ
  repeat' first
    | exact zPr.none
    | exact zPr.some (by assumption)
    | refine zPr.ite ?_ ?_
    | refine zPr.wI (by assumption) (by simp only [sX11_operand, List.mem_cons, List.not_mem_nil, or_false]; omega) (fun _ _ => ?_)
    | refine zPr.wL (by assumption) (by simp only [sX11_operand, List.mem_cons, List.not_mem_nil, or_false]; omega) (fun _ _ => ?_)
    | refine zPr.bI (by assumption) (by simp only [sX11_operand, List.mem_cons, List.not_mem_nil, or_false]; omega) (fun _ _ => ?_)
    | refine zPr.bL (by assumption) (by simp only [sX11_operand, List.mem_cons, List.not_mem_nil, or_false]; omega) (fun _ _ => ?_)
    | refine zPr.wC (by assumption) (by simp only [sX11_operand, List.mem_cons, List.not_mem_nil, or_false]; omega) (fun _ _ => ?_)
    | refine zPr.aI (fun _ => ?_)
    | refine zPr.aL (fun _ => ?_)
    | refine zPr.gd ?_
    | refine zPr.bw (S' := sX11_add) (by assumption) (mX11_add ..) (fun p hp => by simp only [sX11_add, sX11_operand, List.mem_cons, List.not_mem_nil, or_false] at hp ⊢ <;> omega) (fun _ _ => ?_)
    | refine zPr.bw (S' := sX11_ahead) (by assumption) (mX11_ahead ..) (fun p hp => by simp only [sX11_ahead, sX11_operand, List.mem_cons, List.not_mem_nil, or_false] at hp ⊢ <;> omega) (fun _ _ => ?_)
    | refine zPr.bw (S' := sX11_blame) (by assumption) (mX11_blame ..) (fun p hp => by simp only [sX11_blame, sX11_operand, List.mem_cons, List.not_mem_nil, or_false] at hp ⊢ <;> omega) (fun _ _ => ?_)
    | refine zPr.bw (S' := sX11_holdsBack) (by assumption) (mX11_holdsBack ..) (fun p hp => by simp only [sX11_holdsBack, sX11_operand, List.mem_cons, List.not_mem_nil, or_false] at hp ⊢ <;> omega) (fun _ _ => ?_)
    | refine zPr.bw (S' := sX11_lex) (by assumption) (mX11_lex ..) (fun p hp => by simp only [sX11_lex, sX11_operand, List.mem_cons, List.not_mem_nil, or_false] at hp ⊢ <;> omega) (fun _ _ => ?_)
    | refine zPr.bw (S' := sX11_opens) (by assumption) (mX11_opens ..) (fun p hp => by simp only [sX11_opens, sX11_operand, List.mem_cons, List.not_mem_nil, or_false] at hp ⊢ <;> omega) (fun _ _ => ?_)
    | refine zPr.bnr (fun _ => ?_)
    | refine zPr.bnv (fun _ => ?_)
    | exact zPr.tail (S' := sX11_operand) (by assumption) (mX11_operand_289 ..) (fun _ h => h)
    | exact zPr.tail (S' := sX11_operand) (by assumption) (mX11_operand_276 ..) (fun _ h => h)
theorem mX11_operand_217 (σ : zS) : zPr (sX11_operand σ.2.2) σ Prod.snd (fX11_operand_217 σ) := by
  unfold fX11_operand_217
  have hc := zSm.rfl (sX11_operand σ.2.2) σ
  repeat' first
    | exact zPr.none
    | exact zPr.some (by assumption)
    | refine zPr.ite ?_ ?_
    | refine zPr.wI (by assumption) (by simp only [sX11_operand, List.mem_cons, List.not_mem_nil, or_false]; omega) (fun _ _ => ?_)
    | refine zPr.wL (by assumption) (by simp only [sX11_operand, List.mem_cons, List.not_mem_nil, or_false]; omega) (fun _ _ => ?_)
    | refine zPr.bI (by assumption) (by simp only [sX11_operand, List.mem_cons, List.not_mem_nil, or_false]; omega) (fun _ _ => ?_)
    | refine zPr.bL (by assumption) (by simp only [sX11_operand, List.mem_cons, List.not_mem_nil, or_false]; omega) (fun _ _ => ?_)
    | refine zPr.wC (by assumption) (by simp only [sX11_operand, List.mem_cons, List.not_mem_nil, or_false]; omega) (fun _ _ => ?_)
    | refine zPr.aI (fun _ => ?_)
    | refine zPr.aL (fun _ => ?_)
    | refine zPr.gd ?_
    | refine zPr.bw (S' := sX11_add) (by assumption) (mX11_add ..) (fun p hp => by simp only [sX11_add, sX11_operand, List.mem_cons, List.not_mem_nil, or_false] at hp ⊢ <;> omega) (fun _ _ => ?_)
    | refine zPr.bw (S' := sX11_ahead) (by assumption) (mX11_ahead ..) (fun p hp => by simp only [sX11_ahead, sX11_operand, List.mem_cons, List.not_mem_nil, or_false] at hp ⊢ <;> omega) (fun _ _ => ?_)
    | refine zPr.bw (S' := sX11_blame) (by assumption) (mX11_blame ..) (fun p hp => by simp only [sX11_blame, sX11_operand, List.mem_cons, List.not_mem_nil, or_false] at hp ⊢ <;> omega) (fun _ _ => ?_)
    | refine zPr.bw (S' := sX11_holdsBack) (by assumption) (mX11_holdsBack ..) (fun p hp => by simp only [sX11_holdsBack, sX11_operand, List.mem_cons, List.not_mem_nil, or_false] at hp ⊢ <;> omega) (fun _ _ => ?_)
    | refine zPr.bw (S' := sX11_lex) (by assumption) (mX11_lex ..) (fun p hp => by simp only [sX11_lex, sX11_operand, List.mem_cons, List.not_mem_nil, or_false] at hp ⊢ <;> omega) (fun _ _ => ?_)
    | refine zPr.bw (S' := sX11_opens) (by assumption) (mX11_opens ..) (fun p hp => by simp only [sX11_opens, sX11_operand, List.mem_cons, List.not_mem_nil, or_false] at hp ⊢ <;> omega) (fun _ _ => ?_)
    | refine zPr.bnr (fun _ => ?_)
    | refine zPr.bnv (fun _ => ?_)
    | exact zPr.tail (S' := sX11_operand) (by assumption) (mX11_operand_289 ..) (fun _ h => h)
    | exact zPr.tail (S' := sX11_operand) (by assumption) (mX11_operand_276 ..) (fun _ h => h)
    | exact zPr.tail (S' := sX11_operand) (by assumption) (mX11_operand_249 ..) (fun _ h => h)
theorem mX11_operand_441 (x3 : Int32) (σ : zS) : zPr (sX11_operand σ.2.2) σ Prod.snd (fX11_operand_441 x3 σ) := by
  unfold fX11_operand_441
  have hc := zSm.rfl (sX11_operand σ.2.2) σ
  repeat' first
    | exact zPr.none
    | exact zPr.some (by assumption)
    | refine zPr.ite ?_ ?_
    | refine zPr.wI (by assumption) (by simp only [sX11_operand, List.mem_cons, List.not_mem_nil, or_false]; omega) (fun _ _ => ?_)
    | refine zPr.wL (by assumption) (by simp only [sX11_operand, List.mem_cons, List.not_mem_nil, or_false]; omega) (fun _ _ => ?_)
    | refine zPr.bI (by assumption) (by simp only [sX11_operand, List.mem_cons, List.not_mem_nil, or_false]; omega) (fun _ _ => ?_)
    | refine zPr.bL (by assumption) (by simp only [sX11_operand, List.mem_cons, List.not_mem_nil, or_false]; omega) (fun _ _ => ?_)
    | refine zPr.wC (by assumption) (by simp only [sX11_operand, List.mem_cons, List.not_mem_nil, or_false]; omega) (fun _ _ => ?_)
    | refine zPr.aI (fun _ => ?_)
    | refine zPr.aL (fun _ => ?_)
    | refine zPr.gd ?_
    | refine zPr.bw (S' := sX11_add) (by assumption) (mX11_add ..) (fun p hp => by simp only [sX11_add, sX11_operand, List.mem_cons, List.not_mem_nil, or_false] at hp ⊢ <;> omega) (fun _ _ => ?_)
    | refine zPr.bw (S' := sX11_ahead) (by assumption) (mX11_ahead ..) (fun p hp => by simp only [sX11_ahead, sX11_operand, List.mem_cons, List.not_mem_nil, or_false] at hp ⊢ <;> omega) (fun _ _ => ?_)
    | refine zPr.bw (S' := sX11_blame) (by assumption) (mX11_blame ..) (fun p hp => by simp only [sX11_blame, sX11_operand, List.mem_cons, List.not_mem_nil, or_false] at hp ⊢ <;> omega) (fun _ _ => ?_)
    | refine zPr.bw (S' := sX11_holdsBack) (by assumption) (mX11_holdsBack ..) (fun p hp => by simp only [sX11_holdsBack, sX11_operand, List.mem_cons, List.not_mem_nil, or_false] at hp ⊢ <;> omega) (fun _ _ => ?_)
    | refine zPr.bw (S' := sX11_lex) (by assumption) (mX11_lex ..) (fun p hp => by simp only [sX11_lex, sX11_operand, List.mem_cons, List.not_mem_nil, or_false] at hp ⊢ <;> omega) (fun _ _ => ?_)
    | refine zPr.bw (S' := sX11_opens) (by assumption) (mX11_opens ..) (fun p hp => by simp only [sX11_opens, sX11_operand, List.mem_cons, List.not_mem_nil, or_false] at hp ⊢ <;> omega) (fun _ _ => ?_)
    | refine zPr.bnr (fun _ => ?_)
    | refine zPr.bnv (fun _ => ?_)
    | exact zPr.tail (S' := sX11_operand) (by assumption) (mX11_operand_289 ..) (fun _ h => h)
    | exact zPr.tail (S' := sX11_operand) (by assumption) (mX11_operand_276 ..) (fun _ h => h)
    | exact zPr.tail (S' := sX11_operand) (by assumption) (mX11_operand_249 ..) (fun _ h => h)
    | exact zPr.tail (S' := sX11_operand) (by assumption) (mX11_operand_217 ..) (fun _ h => h)
theorem mX11_operand_426 (s0 : Int32) (σ : zS) : zPr (sX11_operand σ.2.2) σ Prod.snd (fX11_operand_426 s0 σ) := by
  unfold fX11_operand_426
  have hc := zSm.rfl (sX11_operand σ.2.2) σ
  repeat' first
    | exact zPr.none
    | exact zPr.some (by assumption)
    | refine zPr.ite ?_ ?_
    | refine zPr.wI (by assumption) (by simp only [sX11_operand, List.mem_cons, List.not_mem_nil, or_false]; omega) (fun _ _ => ?_)
    | refine zPr.wL (by assumption) (by simp only [sX11_operand, List.mem_cons, List.not_mem_nil, or_false]; omega) (fun _ _ => ?_)
    | refine zPr.bI (by assumption) (by simp only [sX11_operand, List.mem_cons, List.not_mem_nil, or_false]; omega) (fun _ _ => ?_)
    | refine zPr.bL (by assumption) (by simp only [sX11_operand, List.mem_cons, List.not_mem_nil, or_false]; omega) (fun _ _ => ?_)
    | refine zPr.wC (by assumption) (by simp only [sX11_operand, List.mem_cons, List.not_mem_nil, or_false]; omega) (fun _ _ => ?_)
    | refine zPr.aI (fun _ => ?_)
    | refine zPr.aL (fun _ => ?_)
    | refine zPr.gd ?_
    | refine zPr.bw (S' := sX11_add) (by assumption) (mX11_add ..) (fun p hp => by simp only [sX11_add, sX11_operand, List.mem_cons, List.not_mem_nil, or_false] at hp ⊢ <;> omega) (fun _ _ => ?_)
    | refine zPr.bw (S' := sX11_ahead) (by assumption) (mX11_ahead ..) (fun p hp => by simp only [sX11_ahead, sX11_operand, List.mem_cons, List.not_mem_nil, or_false] at hp ⊢ <;> omega) (fun _ _ => ?_)
    | refine zPr.bw (S' := sX11_blame) (by assumption) (mX11_blame ..) (fun p hp => by simp only [sX11_blame, sX11_operand, List.mem_cons, List.not_mem_nil, or_false] at hp ⊢ <;> omega) (fun _ _ => ?_)
    | refine zPr.bw (S' := sX11_holdsBack) (by assumption) (mX11_holdsBack ..) (fun p hp => by simp only [sX11_holdsBack, sX11_operand, List.mem_cons, List.not_mem_nil, or_false] at hp ⊢ <;> omega) (fun _ _ => ?_)
    | refine zPr.bw (S' := sX11_lex) (by assumption) (mX11_lex ..) (fun p hp => by simp only [sX11_lex, sX11_operand, List.mem_cons, List.not_mem_nil, or_false] at hp ⊢ <;> omega) (fun _ _ => ?_)
    | refine zPr.bw (S' := sX11_opens) (by assumption) (mX11_opens ..) (fun p hp => by simp only [sX11_opens, sX11_operand, List.mem_cons, List.not_mem_nil, or_false] at hp ⊢ <;> omega) (fun _ _ => ?_)
    | refine zPr.bnr (fun _ => ?_)
    | refine zPr.bnv (fun _ => ?_)
    | exact zPr.tail (S' := sX11_operand) (by assumption) (mX11_operand_289 ..) (fun _ h => h)
    | exact zPr.tail (S' := sX11_operand) (by assumption) (mX11_operand_276 ..) (fun _ h => h)
    | exact zPr.tail (S' := sX11_operand) (by assumption) (mX11_operand_249 ..) (fun _ h => h)
    | exact zPr.tail (S' := sX11_operand) (by assumption) (mX11_operand_217 ..) (fun _ h => h)
    | exact zPr.tail (S' := sX11_operand) (by assumption) (mX11_operand_441 ..) (fun _ h => h)
theorem mX11_operand_171 (σ : zS) : zPr (sX11_operand σ.2.2) σ Prod.snd (fX11_operand_171 σ) := by
  unfold fX11_operand_171
  have hc := zSm.rfl (sX11_operand σ.2.2) σ
  repeat' first
    | exact zPr.none
    | exact zPr.some (by assumption)
    | refine zPr.ite ?_ ?_
    | refine zPr.wI (by assumption) (by simp only [sX11_operand, List.mem_cons, List.not_mem_nil, or_false]; omega) (fun _ _ => ?_)
    | refine zPr.wL (by assumption) (by simp only [sX11_operand, List.mem_cons, List.not_mem_nil, or_false]; omega) (fun _ _ => ?_)
    | refine zPr.bI (by assumption) (by simp only [sX11_operand, List.mem_cons, List.not_mem_nil, or_false]; omega) (fun _ _ => ?_)
    | refine zPr.bL (by assumption) (by simp only [sX11_operand, List.mem_cons, List.not_mem_nil, or_false]; omega) (fun _ _ => ?_)
    | refine zPr.wC (by assumption) (by simp only [sX11_operand, List.mem_cons, List.not_mem_nil, or_false]; omega) (fun _ _ => ?_)
    | refine zPr.aI (fun _ => ?_)
    | refine zPr.aL (fun _ => ?_)
    | refine zPr.gd ?_
    | refine zPr.bw (S' := sX11_add) (by assumption) (mX11_add ..) (fun p hp => by simp only [sX11_add, sX11_operand, List.mem_cons, List.not_mem_nil, or_false] at hp ⊢ <;> omega) (fun _ _ => ?_)
    | refine zPr.bw (S' := sX11_ahead) (by assumption) (mX11_ahead ..) (fun p hp => by simp only [sX11_ahead, sX11_operand, List.mem_cons, List.not_mem_nil, or_false] at hp ⊢ <;> omega) (fun _ _ => ?_)
    | refine zPr.bw (S' := sX11_blame) (by assumption) (mX11_blame ..) (fun p hp => by simp only [sX11_blame, sX11_operand, List.mem_cons, List.not_mem_nil, or_false] at hp ⊢ <;> omega) (fun _ _ => ?_)
    | refine zPr.bw (S' := sX11_holdsBack) (by assumption) (mX11_holdsBack ..) (fun p hp => by simp only [sX11_holdsBack, sX11_operand, List.mem_cons, List.not_mem_nil, or_false] at hp ⊢ <;> omega) (fun _ _ => ?_)
    | refine zPr.bw (S' := sX11_lex) (by assumption) (mX11_lex ..) (fun p hp => by simp only [sX11_lex, sX11_operand, List.mem_cons, List.not_mem_nil, or_false] at hp ⊢ <;> omega) (fun _ _ => ?_)
    | refine zPr.bw (S' := sX11_opens) (by assumption) (mX11_opens ..) (fun p hp => by simp only [sX11_opens, sX11_operand, List.mem_cons, List.not_mem_nil, or_false] at hp ⊢ <;> omega) (fun _ _ => ?_)
    | refine zPr.bnr (fun _ => ?_)
    | refine zPr.bnv (fun _ => ?_)
    | exact zPr.tail (S' := sX11_operand) (by assumption) (mX11_operand_289 ..) (fun _ h => h)
    | exact zPr.tail (S' := sX11_operand) (by assumption) (mX11_operand_276 ..) (fun _ h => h)
    | exact zPr.tail (S' := sX11_operand) (by assumption) (mX11_operand_249 ..) (fun _ h => h)
    | exact zPr.tail (S' := sX11_operand) (by assumption) (mX11_operand_217 ..) (fun _ h => h)
    | exact zPr.tail (S' := sX11_operand) (by assumption) (mX11_operand_441 ..) (fun _ h => h)
    | exact zPr.tail (S' := sX11_operand) (by assumption) (mX11_operand_426 ..) (fun _ h => h)
theorem mX11_operand_137 (x1 : Int32) (x2 : Int32) (σ : zS) : zPr (sX11_operand σ.2.2) σ Prod.snd (fX11_operand_137 x1 x2 σ) := by
  unfold fX11_operand_137
  have hc := zSm.rfl (sX11_operand σ.2.2) σ
  repeat' first
    | exact zPr.none
    | exact zPr.some (by assumption)
    | refine zPr.ite ?_ ?_
    | refine zPr.wI (by assumption) (by simp only [sX11_operand, List.mem_cons, List.not_mem_nil, or_false]; omega) (fun _ _ => ?_)
    | refine zPr.wL (by assumption) (by simp only [sX11_operand, List.mem_cons, List.not_mem_nil, or_false]; omega) (fun _ _ => ?_)
    | refine zPr.bI (by assumption) (by simp only [sX11_operand, List.mem_cons, List.not_mem_nil, or_false]; omega) (fun _ _ => ?_)
    | refine zPr.bL (by assumption) (by simp only [sX11_operand, List.mem_cons, List.not_mem_nil, or_false]; omega) (fun _ _ => ?_)
    | refine zPr.wC (by assumption) (by simp only [sX11_operand, List.mem_cons, List.not_mem_nil, or_false]; omega) (fun _ _ => ?_)
    | refine zPr.aI (fun _ => ?_)
    | refine zPr.aL (fun _ => ?_)
    | refine zPr.gd ?_
    | refine zPr.bw (S' := sX11_add) (by assumption) (mX11_add ..) (fun p hp => by simp only [sX11_add, sX11_operand, List.mem_cons, List.not_mem_nil, or_false] at hp ⊢ <;> omega) (fun _ _ => ?_)
    | refine zPr.bw (S' := sX11_ahead) (by assumption) (mX11_ahead ..) (fun p hp => by simp only [sX11_ahead, sX11_operand, List.mem_cons, List.not_mem_nil, or_false] at hp ⊢ <;> omega) (fun _ _ => ?_)
    | refine zPr.bw (S' := sX11_blame) (by assumption) (mX11_blame ..) (fun p hp => by simp only [sX11_blame, sX11_operand, List.mem_cons, List.not_mem_nil, or_false] at hp ⊢ <;> omega) (fun _ _ => ?_)
    | refine zPr.bw (S' := sX11_holdsBack) (by assumption) (mX11_holdsBack ..) (fun p hp => by simp only [sX11_holdsBack, sX11_operand, List.mem_cons, List.not_mem_nil, or_false] at hp ⊢ <;> omega) (fun _ _ => ?_)
    | refine zPr.bw (S' := sX11_lex) (by assumption) (mX11_lex ..) (fun p hp => by simp only [sX11_lex, sX11_operand, List.mem_cons, List.not_mem_nil, or_false] at hp ⊢ <;> omega) (fun _ _ => ?_)
    | refine zPr.bw (S' := sX11_opens) (by assumption) (mX11_opens ..) (fun p hp => by simp only [sX11_opens, sX11_operand, List.mem_cons, List.not_mem_nil, or_false] at hp ⊢ <;> omega) (fun _ _ => ?_)
    | refine zPr.bnr (fun _ => ?_)
    | refine zPr.bnv (fun _ => ?_)
    | exact zPr.tail (S' := sX11_operand) (by assumption) (mX11_operand_289 ..) (fun _ h => h)
    | exact zPr.tail (S' := sX11_operand) (by assumption) (mX11_operand_276 ..) (fun _ h => h)
    | exact zPr.tail (S' := sX11_operand) (by assumption) (mX11_operand_249 ..) (fun _ h => h)
    | exact zPr.tail (S' := sX11_operand) (by assumption) (mX11_operand_217 ..) (fun _ h => h)
    | exact zPr.tail (S' := sX11_operand) (by assumption) (mX11_operand_441 ..) (fun _ h => h)
    | exact zPr.tail (S' := sX11_operand) (by assumption) (mX11_operand_426 ..) (fun _ h => h)
    | exact zPr.tail (S' := sX11_operand) (by assumption) (mX11_operand_171 ..) (fun _ h => h)
theorem mX11_operand_110 (x1 : Int32) (x2 : Int32) (σ : zS) : zPr (sX11_operand σ.2.2) σ Prod.snd (fX11_operand_110 x1 x2 σ) := by
  unfold fX11_operand_110
  have hc := zSm.rfl (sX11_operand σ.2.2) σ
  repeat' first
    | exact zPr.none
    | exact zPr.some (by assumption)
    | refine zPr.ite ?_ ?_
    | refine zPr.wI (by assumption) (by simp only [sX11_operand, List.mem_cons, List.not_mem_nil, or_false]; omega) (fun _ _ => ?_)
    | refine zPr.wL (by assumption) (by simp only [sX11_operand, List.mem_cons, List.not_mem_nil, or_false]; omega) (fun _ _ => ?_)
    | refine zPr.bI (by assumption) (by simp only [sX11_operand, List.mem_cons, List.not_mem_nil, or_false]; omega) (fun _ _ => ?_)
    | refine zPr.bL (by assumption) (by simp only [sX11_operand, List.mem_cons, List.not_mem_nil, or_false]; omega) (fun _ _ => ?_)
    | refine zPr.wC (by assumption) (by simp only [sX11_operand, List.mem_cons, List.not_mem_nil, or_false]; omega) (fun _ _ => ?_)
    | refine zPr.aI (fun _ => ?_)
    | refine zPr.aL (fun _ => ?_)
    | refine zPr.gd ?_
    | refine zPr.bw (S' := sX11_add) (by assumption) (mX11_add ..) (fun p hp => by simp only [sX11_add, sX11_operand, List.mem_cons, List.not_mem_nil, or_false] at hp ⊢ <;> omega) (fun _ _ => ?_)
    | refine zPr.bw (S' := sX11_ahead) (by assumption) (mX11_ahead ..) (fun p hp => by simp only [sX11_ahead, sX11_operand, List.mem_cons, List.not_mem_nil, or_false] at hp ⊢ <;> omega) (fun _ _ => ?_)
    | refine zPr.bw (S' := sX11_blame) (by assumption) (mX11_blame ..) (fun p hp => by simp only [sX11_blame, sX11_operand, List.mem_cons, List.not_mem_nil, or_false] at hp ⊢ <;> omega) (fun _ _ => ?_)
    | refine zPr.bw (S' := sX11_holdsBack) (by assumption) (mX11_holdsBack ..) (fun p hp => by simp only [sX11_holdsBack, sX11_operand, List.mem_cons, List.not_mem_nil, or_false] at hp ⊢ <;> omega) (fun _ _ => ?_)
    | refine zPr.bw (S' := sX11_lex) (by assumption) (mX11_lex ..) (fun p hp => by simp only [sX11_lex, sX11_operand, List.mem_cons, List.not_mem_nil, or_false] at hp ⊢ <;> omega) (fun _ _ => ?_)
    | refine zPr.bw (S' := sX11_opens) (by assumption) (mX11_opens ..) (fun p hp => by simp only [sX11_opens, sX11_operand, List.mem_cons, List.not_mem_nil, or_false] at hp ⊢ <;> omega) (fun _ _ => ?_)
    | refine zPr.bnr (fun _ => ?_)
    | refine zPr.bnv (fun _ => ?_)
    | exact zPr.tail (S' := sX11_operand) (by assumption) (mX11_operand_289 ..) (fun _ h => h)
    | exact zPr.tail (S' := sX11_operand) (by assumption) (mX11_operand_276 ..) (fun _ h => h)
    | exact zPr.tail (S' := sX11_operand) (by assumption) (mX11_operand_249 ..) (fun _ h => h)
    | exact zPr.tail (S' := sX11_operand) (by assumption) (mX11_operand_217 ..) (fun _ h => h)
    | exact zPr.tail (S' := sX11_operand) (by assumption) (mX11_operand_441 ..) (fun _ h => h)
    | exact zPr.tail (S' := sX11_operand) (by assumption) (mX11_operand_426 ..) (fun _ h => h)
    | exact zPr.tail (S' := sX11_operand) (by assumption) (mX11_operand_171 ..) (fun _ h => h)
    | exact zPr.tail (S' := sX11_operand) (by assumption) (mX11_operand_137 ..) (fun _ h => h)
theorem mX11_operand_79 (σ : zS) : zPr (sX11_operand σ.2.2) σ Prod.snd (fX11_operand_79 σ) := by
  unfold fX11_operand_79
  have hc := zSm.rfl (sX11_operand σ.2.2) σ
  repeat' first
    | exact zPr.none
    | exact zPr.some (by assumption)
    | refine zPr.ite ?_ ?_
    | refine zPr.wI (by assumption) (by simp only [sX11_operand, List.mem_cons, List.not_mem_nil, or_false]; omega) (fun _ _ => ?_)
    | refine zPr.wL (by assumption) (by simp only [sX11_operand, List.mem_cons, List.not_mem_nil, or_false]; omega) (fun _ _ => ?_)
    | refine zPr.bI (by assumption) (by simp only [sX11_operand, List.mem_cons, List.not_mem_nil, or_false]; omega) (fun _ _ => ?_)
    | refine zPr.bL (by assumption) (by simp only [sX11_operand, List.mem_cons, List.not_mem_nil, or_false]; omega) (fun _ _ => ?_)
    | refine zPr.wC (by assumption) (by simp only [sX11_operand, List.mem_cons, List.not_mem_nil, or_false]; omega) (fun _ _ => ?_)
    | refine zPr.aI (fun _ => ?_)
    | refine zPr.aL (fun _ => ?_)
    | refine zPr.gd ?_
    | refine zPr.bw (S' := sX11_add) (by assumption) (mX11_add ..) (fun p hp => by simp only [sX11_add, sX11_operand, List.mem_cons, List.not_mem_nil, or_false] at hp ⊢ <;> omega) (fun _ _ => ?_)
    | refine zPr.bw (S' := sX11_ahead) (by assumption) (mX11_ahead ..) (fun p hp => by simp only [sX11_ahead, sX11_operand, List.mem_cons, List.not_mem_nil, or_false] at hp ⊢ <;> omega) (fun _ _ => ?_)
    | refine zPr.bw (S' := sX11_blame) (by assumption) (mX11_blame ..) (fun p hp => by simp only [sX11_blame, sX11_operand, List.mem_cons, List.not_mem_nil, or_false] at hp ⊢ <;> omega) (fun _ _ => ?_)
    | refine zPr.bw (S' := sX11_holdsBack) (by assumption) (mX11_holdsBack ..) (fun p hp => by simp only [sX11_holdsBack, sX11_operand, List.mem_cons, List.not_mem_nil, or_false] at hp ⊢ <;> omega) (fun _ _ => ?_)
    | refine zPr.bw (S' := sX11_lex) (by assumption) (mX11_lex ..) (fun p hp => by simp only [sX11_lex, sX11_operand, List.mem_cons, List.not_mem_nil, or_false] at hp ⊢ <;> omega) (fun _ _ => ?_)
    | refine zPr.bw (S' := sX11_opens) (by assumption) (mX11_opens ..) (fun p hp => by simp only [sX11_opens, sX11_operand, List.mem_cons, List.not_mem_nil, or_false] at hp ⊢ <;> omega) (fun _ _ => ?_)
    | refine zPr.bnr (fun _ => ?_)
    | refine zPr.bnv (fun _ => ?_)
    | exact zPr.tail (S' := sX11_operand) (by assumption) (mX11_operand_289 ..) (fun _ h => h)
    | exact zPr.tail (S' := sX11_operand) (by assumption) (mX11_operand_276 ..) (fun _ h => h)
    | exact zPr.tail (S' := sX11_operand) (by assumption) (mX11_operand_249 ..) (fun _ h => h)
    | exact zPr.tail (S' := sX11_operand) (by assumption) (mX11_operand_217 ..) (fun _ h => h)
    | exact zPr.tail (S' := sX11_operand) (by assumption) (mX11_operand_441 ..) (fun _ h => h)
    | exact zPr.tail (S' := sX11_operand) (by assumption) (mX11_operand_426 ..) (fun _ h => h)
    | exact zPr.tail (S' := sX11_operand) (by assumption) (mX11_operand_171 ..) (fun _ h => h)
    | exact zPr.tail (S' := sX11_operand) (by assumption) (mX11_operand_137 ..) (fun _ h => h)
    | exact zPr.tail (S' := sX11_operand) (by assumption) (mX11_operand_110 ..) (fun _ h => h)
theorem mX11_operand_46 (x1 : Int32) (s0 : Int32) (σ : zS) : zPr (sX11_operand σ.2.2) σ Prod.snd (fX11_operand_46 x1 s0 σ) := by
  unfold fX11_operand_46
  have hc := zSm.rfl (sX11_operand σ.2.2) σ
  repeat' first
    | exact zPr.none
    | exact zPr.some (by assumption)
    | refine zPr.ite ?_ ?_
    | refine zPr.wI (by assumption) (by simp only [sX11_operand, List.mem_cons, List.not_mem_nil, or_false]; omega) (fun _ _ => ?_)
    | refine zPr.wL (by assumption) (by simp only [sX11_operand, List.mem_cons, List.not_mem_nil, or_false]; omega) (fun _ _ => ?_)
    | refine zPr.bI (by assumption) (by simp only [sX11_operand, List.mem_cons, List.not_mem_nil, or_false]; omega) (fun _ _ => ?_)
    | refine zPr.bL (by assumption) (by simp only [sX11_operand, List.mem_cons, List.not_mem_nil, or_false]; omega) (fun _ _ => ?_)
    | refine zPr.wC (by assumption) (by simp only [sX11_operand, List.mem_cons, List.not_mem_nil, or_false]; omega) (fun _ _ => ?_)
    | refine zPr.aI (fun _ => ?_)
    | refine zPr.aL (fun _ => ?_)
    | refine zPr.gd ?_
    | refine zPr.bw (S' := sX11_add) (by assumption) (mX11_add ..) (fun p hp => by simp only [sX11_add, sX11_operand, List.mem_cons, List.not_mem_nil, or_false] at hp ⊢ <;> omega) (fun _ _ => ?_)
    | refine zPr.bw (S' := sX11_ahead) (by assumption) (mX11_ahead ..) (fun p hp => by simp only [sX11_ahead, sX11_operand, List.mem_cons, List.not_mem_nil, or_false] at hp ⊢ <;> omega) (fun _ _ => ?_)
    | refine zPr.bw (S' := sX11_blame) (by assumption) (mX11_blame ..) (fun p hp => by simp only [sX11_blame, sX11_operand, List.mem_cons, List.not_mem_nil, or_false] at hp ⊢ <;> omega) (fun _ _ => ?_)
    | refine zPr.bw (S' := sX11_holdsBack) (by assumption) (mX11_holdsBack ..) (fun p hp => by simp only [sX11_holdsBack, sX11_operand, List.mem_cons, List.not_mem_nil, or_false] at hp ⊢ <;> omega) (fun _ _ => ?_)
    | refine zPr.bw (S' := sX11_lex) (by assumption) (mX11_lex ..) (fun p hp => by simp only [sX11_lex, sX11_operand, List.mem_cons, List.not_mem_nil, or_false] at hp ⊢ <;> omega) (fun _ _ => ?_)
    | refine zPr.bw (S' := sX11_opens) (by assumption) (mX11_opens ..) (fun p hp => by simp only [sX11_opens, sX11_operand, List.mem_cons, List.not_mem_nil, or_false] at hp ⊢ <;> omega) (fun _ _ => ?_)
    | refine zPr.bnr (fun _ => ?_)
    | refine zPr.bnv (fun _ => ?_)
    | exact zPr.tail (S' := sX11_operand) (by assumption) (mX11_operand_289 ..) (fun _ h => h)
    | exact zPr.tail (S' := sX11_operand) (by assumption) (mX11_operand_276 ..) (fun _ h => h)
    | exact zPr.tail (S' := sX11_operand) (by assumption) (mX11_operand_249 ..) (fun _ h => h)
    | exact zPr.tail (S' := sX11_operand) (by assumption) (mX11_operand_217 ..) (fun _ h => h)
    | exact zPr.tail (S' := sX11_operand) (by assumption) (mX11_operand_441 ..) (fun _ h => h)
    | exact zPr.tail (S' := sX11_operand) (by assumption) (mX11_operand_426 ..) (fun _ h => h)
    | exact zPr.tail (S' := sX11_operand) (by assumption) (mX11_operand_171 ..) (fun _ h => h)
    | exact zPr.tail (S' := sX11_operand) (by assumption) (mX11_operand_137 ..) (fun _ h => h)
    | exact zPr.tail (S' := sX11_operand) (by assumption) (mX11_operand_110 ..) (fun _ h => h)
    | exact zPr.tail (S' := sX11_operand) (by assumption) (mX11_operand_79 ..) (fun _ h => h)
theorem mX11_operand_45 (x1 : Int32) (σ : zS) : zPr (sX11_operand σ.2.2) σ Prod.snd (fX11_operand_45 x1 σ) := by
  unfold fX11_operand_45
  have hc := zSm.rfl (sX11_operand σ.2.2) σ
  repeat' first
    | exact zPr.none
    | exact zPr.some (by assumption)
    | refine zPr.ite ?_ ?_
    | refine zPr.wI (by assumption) (by simp only [sX11_operand, List.mem_cons, List.not_mem_nil, or_false]; omega) (fun _ _ => ?_)
    | refine zPr.wL (by assumption) (by simp only [sX11_operand, List.mem_cons, List.not_mem_nil, or_false]; omega) (fun _ _ => ?_)
    | refine zPr.bI (by assumption) (by simp only [sX11_operand, List.mem_cons, List.not_mem_nil, or_false]; omega) (fun _ _ => ?_)
    | refine zPr.bL (by assumption) (by simp only [sX11_operand, List.mem_cons, List.not_mem_nil, or_false]; omega) (fun _ _ => ?_)
    | refine zPr.wC (by assumption) (by simp only [sX11_operand, List.mem_cons, List.not_mem_nil, or_false]; omega) (fun _ _ => ?_)
    | refine zPr.aI (fun _ => ?_)
    | refine zPr.aL (fun _ => ?_)
    | refine zPr.gd ?_
    | refine zPr.bw (S' := sX11_add) (by assumption) (mX11_add ..) (fun p hp => by simp only [sX11_add, sX11_operand, List.mem_cons, List.not_mem_nil, or_false] at hp ⊢ <;> omega) (fun _ _ => ?_)
    | refine zPr.bw (S' := sX11_ahead) (by assumption) (mX11_ahead ..) (fun p hp => by simp only [sX11_ahead, sX11_operand, List.mem_cons, List.not_mem_nil, or_false] at hp ⊢ <;> omega) (fun _ _ => ?_)
    | refine zPr.bw (S' := sX11_blame) (by assumption) (mX11_blame ..) (fun p hp => by simp only [sX11_blame, sX11_operand, List.mem_cons, List.not_mem_nil, or_false] at hp ⊢ <;> omega) (fun _ _ => ?_)
    | refine zPr.bw (S' := sX11_holdsBack) (by assumption) (mX11_holdsBack ..) (fun p hp => by simp only [sX11_holdsBack, sX11_operand, List.mem_cons, List.not_mem_nil, or_false] at hp ⊢ <;> omega) (fun _ _ => ?_)
    | refine zPr.bw (S' := sX11_lex) (by assumption) (mX11_lex ..) (fun p hp => by simp only [sX11_lex, sX11_operand, List.mem_cons, List.not_mem_nil, or_false] at hp ⊢ <;> omega) (fun _ _ => ?_)
    | refine zPr.bw (S' := sX11_opens) (by assumption) (mX11_opens ..) (fun p hp => by simp only [sX11_opens, sX11_operand, List.mem_cons, List.not_mem_nil, or_false] at hp ⊢ <;> omega) (fun _ _ => ?_)
    | refine zPr.bnr (fun _ => ?_)
    | refine zPr.bnv (fun _ => ?_)
    | exact zPr.tail (S' := sX11_operand) (by assumption) (mX11_operand_289 ..) (fun _ h => h)
    | exact zPr.tail (S' := sX11_operand) (by assumption) (mX11_operand_276 ..) (fun _ h => h)
    | exact zPr.tail (S' := sX11_operand) (by assumption) (mX11_operand_249 ..) (fun _ h => h)
    | exact zPr.tail (S' := sX11_operand) (by assumption) (mX11_operand_217 ..) (fun _ h => h)
    | exact zPr.tail (S' := sX11_operand) (by assumption) (mX11_operand_441 ..) (fun _ h => h)
    | exact zPr.tail (S' := sX11_operand) (by assumption) (mX11_operand_426 ..) (fun _ h => h)
    | exact zPr.tail (S' := sX11_operand) (by assumption) (mX11_operand_171 ..) (fun _ h => h)
    | exact zPr.tail (S' := sX11_operand) (by assumption) (mX11_operand_137 ..) (fun _ h => h)
    | exact zPr.tail (S' := sX11_operand) (by assumption) (mX11_operand_110 ..) (fun _ h => h)
    | exact zPr.tail (S' := sX11_operand) (by assumption) (mX11_operand_79 ..) (fun _ h => h)
    | exact zPr.tail (S' := sX11_operand) (by assumption) (mX11_operand_46 ..) (fun _ h => h)
theorem mX11_operand (σ : zS) : zPr (sX11_operand σ.2.2) σ Prod.snd (fX11_operand σ) := by
  unfold fX11_operand
  have hc := zSm.rfl (sX11_operand σ.2.2) σ
  repeat' first
    | exact zPr.none
    | exact zPr.some (by assumption)
    | refine zPr.ite ?_ ?_
    | refine zPr.wI (by assumption) (by simp only [sX11_operand, List.mem_cons, List.not_mem_nil, or_false]; omega) (fun _ _ => ?_)
    | refine zPr.wL (by assumption) (by simp only [sX11_operand, List.mem_cons, List.not_mem_nil, or_false]; omega) (fun _ _ => ?_)
    | refine zPr.bI (by assumption) (by simp only [sX11_operand, List.mem_cons, List.not_mem_nil, or_false]; omega) (fun _ _ => ?_)
    | refine zPr.bL (by assumption) (by simp only [sX11_operand, List.mem_cons, List.not_mem_nil, or_false]; omega) (fun _ _ => ?_)
    | refine zPr.wC (by assumption) (by simp only [sX11_operand, List.mem_cons, List.not_mem_nil, or_false]; omega) (fun _ _ => ?_)
    | refine zPr.aI (fun _ => ?_)
    | refine zPr.aL (fun _ => ?_)
    | refine zPr.gd ?_
    | refine zPr.bw (S' := sX11_add) (by assumption) (mX11_add ..) (fun p hp => by simp only [sX11_add, sX11_operand, List.mem_cons, List.not_mem_nil, or_false] at hp ⊢ <;> omega) (fun _ _ => ?_)
    | refine zPr.bw (S' := sX11_ahead) (by assumption) (mX11_ahead ..) (fun p hp => by simp only [sX11_ahead, sX11_operand, List.mem_cons, List.not_mem_nil, or_false] at hp ⊢ <;> omega) (fun _ _ => ?_)
    | refine zPr.bw (S' := sX11_blame) (by assumption) (mX11_blame ..) (fun p hp => by simp only [sX11_blame, sX11_operand, List.mem_cons, List.not_mem_nil, or_false] at hp ⊢ <;> omega) (fun _ _ => ?_)
    | refine zPr.bw (S' := sX11_holdsBack) (by assumption) (mX11_holdsBack ..) (fun p hp => by simp only [sX11_holdsBack, sX11_operand, List.mem_cons, List.not_mem_nil, or_false] at hp ⊢ <;> omega) (fun _ _ => ?_)
    | refine zPr.bw (S' := sX11_lex) (by assumption) (mX11_lex ..) (fun p hp => by simp only [sX11_lex, sX11_operand, List.mem_cons, List.not_mem_nil, or_false] at hp ⊢ <;> omega) (fun _ _ => ?_)
    | refine zPr.bw (S' := sX11_opens) (by assumption) (mX11_opens ..) (fun p hp => by simp only [sX11_opens, sX11_operand, List.mem_cons, List.not_mem_nil, or_false] at hp ⊢ <;> omega) (fun _ _ => ?_)
    | refine zPr.bnr (fun _ => ?_)
    | refine zPr.bnv (fun _ => ?_)
    | exact zPr.tail (S' := sX11_operand) (by assumption) (mX11_operand_289 ..) (fun _ h => h)
    | exact zPr.tail (S' := sX11_operand) (by assumption) (mX11_operand_276 ..) (fun _ h => h)
    | exact zPr.tail (S' := sX11_operand) (by assumption) (mX11_operand_249 ..) (fun _ h => h)
    | exact zPr.tail (S' := sX11_operand) (by assumption) (mX11_operand_217 ..) (fun _ h => h)
    | exact zPr.tail (S' := sX11_operand) (by assumption) (mX11_operand_441 ..) (fun _ h => h)
    | exact zPr.tail (S' := sX11_operand) (by assumption) (mX11_operand_426 ..) (fun _ h => h)
    | exact zPr.tail (S' := sX11_operand) (by assumption) (mX11_operand_171 ..) (fun _ h => h)
    | exact zPr.tail (S' := sX11_operand) (by assumption) (mX11_operand_137 ..) (fun _ h => h)
    | exact zPr.tail (S' := sX11_operand) (by assumption) (mX11_operand_110 ..) (fun _ h => h)
    | exact zPr.tail (S' := sX11_operand) (by assumption) (mX11_operand_79 ..) (fun _ h => h)
    | exact zPr.tail (S' := sX11_operand) (by assumption) (mX11_operand_46 ..) (fun _ h => h)
    | exact zPr.tail (S' := sX11_operand) (by assumption) (mX11_operand_45 ..) (fun _ h => h)
def sX11_goesOn (t : Bool × Bool × Bool) : List Nat := [56, 74, 75, 78, 79, 80, 83]
theorem mX11_goesOn_499 (x1 : Int32) (s0 : Int32) (s1 : Int32) (σ : zS) : zPr (sX11_goesOn σ.2.2) σ Prod.snd (fX11_goesOn_499 x1 s0 s1 σ) := by
  unfold fX11_goesOn_499
  have hc := zSm.rfl (sX11_goesOn σ.2.2) σ
  repeat' first
    | exact zPr.none
    | exact zPr.some (by assumption)
    | refine zPr.ite ?_ ?_
    | refine zPr.wI (by assumption) (by simp only [sX11_goesOn, List.mem_cons, List.not_mem_nil, or_false]; omega) (fun _ _ => ?_)
    | refine zPr.wL (by assumption) (by simp only [sX11_goesOn, List.mem_cons, List.not_mem_nil, or_false]; omega) (fun _ _ => ?_)
    | refine zPr.bI (by assumption) (by simp only [sX11_goesOn, List.mem_cons, List.not_mem_nil, or_false]; omega) (fun _ _ => ?_)
    | refine zPr.bL (by assumption) (by simp only [sX11_goesOn, List.mem_cons, List.not_mem_nil, or_false]; omega) (fun _ _ => ?_)
    | refine zPr.wC (by assumption) (by simp only [sX11_goesOn, List.mem_cons, List.not_mem_nil, or_false]; omega) (fun _ _ => ?_)
    | refine zPr.aI (fun _ => ?_)
    | refine zPr.aL (fun _ => ?_)
    | refine zPr.gd ?_
    | refine zPr.bw (S' := sX11_add) (by assumption) (mX11_add ..) (fun p hp => by simp only [sX11_add, sX11_goesOn, List.mem_cons, List.not_mem_nil, or_false] at hp ⊢ <;> omega) (fun _ _ => ?_)
    | refine zPr.bw (S' := sX11_ahead) (by assumption) (mX11_ahead ..) (fun p hp => by simp only [sX11_ahead, sX11_goesOn, List.mem_cons, List.not_mem_nil, or_false] at hp ⊢ <;> omega) (fun _ _ => ?_)
    | refine zPr.bw (S' := sX11_blame) (by assumption) (mX11_blame ..) (fun p hp => by simp only [sX11_blame, sX11_goesOn, List.mem_cons, List.not_mem_nil, or_false] at hp ⊢ <;> omega) (fun _ _ => ?_)
    | refine zPr.bw (S' := sX11_holdsBack) (by assumption) (mX11_holdsBack ..) (fun p hp => by simp only [sX11_holdsBack, sX11_goesOn, List.mem_cons, List.not_mem_nil, or_false] at hp ⊢ <;> omega) (fun _ _ => ?_)
    | refine zPr.bw (S' := sX11_joins) (by assumption) (mX11_joins ..) (fun p hp => by simp only [sX11_joins, sX11_goesOn, List.mem_cons, List.not_mem_nil, or_false] at hp ⊢ <;> omega) (fun _ _ => ?_)
    | refine zPr.bw (S' := sX11_lex) (by assumption) (mX11_lex ..) (fun p hp => by simp only [sX11_lex, sX11_goesOn, List.mem_cons, List.not_mem_nil, or_false] at hp ⊢ <;> omega) (fun _ _ => ?_)
    | refine zPr.bnr (fun _ => ?_)
    | refine zPr.bnv (fun _ => ?_)
theorem mX11_goesOn_470 (x1 : Int32) (x2 : Int32) (σ : zS) : zPr (sX11_goesOn σ.2.2) σ Prod.snd (fX11_goesOn_470 x1 x2 σ) := by
  unfold fX11_goesOn_470
  have hc := zSm.rfl (sX11_goesOn σ.2.2) σ
  repeat' first
    | exact zPr.none
    | exact zPr.some (by assumption)
    | refine zPr.ite ?_ ?_
    | refine zPr.wI (by assumption) (by simp only [sX11_goesOn, List.mem_cons, List.not_mem_nil, or_false]; omega) (fun _ _ => ?_)
    | refine zPr.wL (by assumption) (by simp only [sX11_goesOn, List.mem_cons, List.not_mem_nil, or_false]; omega) (fun _ _ => ?_)
    | refine zPr.bI (by assumption) (by simp only [sX11_goesOn, List.mem_cons, List.not_mem_nil, or_false]; omega) (fun _ _ => ?_)
    | refine zPr.bL (by assumption) (by simp only [sX11_goesOn, List.mem_cons, List.not_mem_nil, or_false]; omega) (fun _ _ => ?_)
    | refine zPr.wC (by assumption) (by simp only [sX11_goesOn, List.mem_cons, List.not_mem_nil, or_false]; omega) (fun _ _ => ?_)
    | refine zPr.aI (fun _ => ?_)
    | refine zPr.aL (fun _ => ?_)
    | refine zPr.gd ?_
    | refine zPr.bw (S' := sX11_add) (by assumption) (mX11_add ..) (fun p hp => by simp only [sX11_add, sX11_goesOn, List.mem_cons, List.not_mem_nil, or_false] at hp ⊢ <;> omega) (fun _ _ => ?_)
    | refine zPr.bw (S' := sX11_ahead) (by assumption) (mX11_ahead ..) (fun p hp => by simp only [sX11_ahead, sX11_goesOn, List.mem_cons, List.not_mem_nil, or_false] at hp ⊢ <;> omega) (fun _ _ => ?_)
    | refine zPr.bw (S' := sX11_blame) (by assumption) (mX11_blame ..) (fun p hp => by simp only [sX11_blame, sX11_goesOn, List.mem_cons, List.not_mem_nil, or_false] at hp ⊢ <;> omega) (fun _ _ => ?_)
    | refine zPr.bw (S' := sX11_holdsBack) (by assumption) (mX11_holdsBack ..) (fun p hp => by simp only [sX11_holdsBack, sX11_goesOn, List.mem_cons, List.not_mem_nil, or_false] at hp ⊢ <;> omega) (fun _ _ => ?_)
    | refine zPr.bw (S' := sX11_joins) (by assumption) (mX11_joins ..) (fun p hp => by simp only [sX11_joins, sX11_goesOn, List.mem_cons, List.not_mem_nil, or_false] at hp ⊢ <;> omega) (fun _ _ => ?_)
    | refine zPr.bw (S' := sX11_lex) (by assumption) (mX11_lex ..) (fun p hp => by simp only [sX11_lex, sX11_goesOn, List.mem_cons, List.not_mem_nil, or_false] at hp ⊢ <;> omega) (fun _ _ => ?_)
    | refine zPr.bnr (fun _ => ?_)
    | refine zPr.bnv (fun _ => ?_)
    | exact zPr.tail (S' := sX11_goesOn) (by assumption) (mX11_goesOn_499 ..) (fun _ h => h)
theorem mX11_goesOn_452 (x1 : Int32) (x2 : Int32) (σ : zS) : zPr (sX11_goesOn σ.2.2) σ Prod.snd (fX11_goesOn_452 x1 x2 σ) := by
  unfold fX11_goesOn_452
  have hc := zSm.rfl (sX11_goesOn σ.2.2) σ
  repeat' first
    | exact zPr.none
    | exact zPr.some (by assumption)
    | refine zPr.ite ?_ ?_
    | refine zPr.wI (by assumption) (by simp only [sX11_goesOn, List.mem_cons, List.not_mem_nil, or_false]; omega) (fun _ _ => ?_)
    | refine zPr.wL (by assumption) (by simp only [sX11_goesOn, List.mem_cons, List.not_mem_nil, or_false]; omega) (fun _ _ => ?_)
    | refine zPr.bI (by assumption) (by simp only [sX11_goesOn, List.mem_cons, List.not_mem_nil, or_false]; omega) (fun _ _ => ?_)
    | refine zPr.bL (by assumption) (by simp only [sX11_goesOn, List.mem_cons, List.not_mem_nil, or_false]; omega) (fun _ _ => ?_)
    | refine zPr.wC (by assumption) (by simp only [sX11_goesOn, List.mem_cons, List.not_mem_nil, or_false]; omega) (fun _ _ => ?_)
    | refine zPr.aI (fun _ => ?_)
    | refine zPr.aL (fun _ => ?_)
    | refine zPr.gd ?_
    | refine zPr.bw (S' := sX11_add) (by assumption) (mX11_add ..) (fun p hp => by simp only [sX11_add, sX11_goesOn, List.mem_cons, List.not_mem_nil, or_false] at hp ⊢ <;> omega) (fun _ _ => ?_)
    | refine zPr.bw (S' := sX11_ahead) (by assumption) (mX11_ahead ..) (fun p hp => by simp only [sX11_ahead, sX11_goesOn, List.mem_cons, List.not_mem_nil, or_false] at hp ⊢ <;> omega) (fun _ _ => ?_)
    | refine zPr.bw (S' := sX11_blame) (by assumption) (mX11_blame ..) (fun p hp => by simp only [sX11_blame, sX11_goesOn, List.mem_cons, List.not_mem_nil, or_false] at hp ⊢ <;> omega) (fun _ _ => ?_)
    | refine zPr.bw (S' := sX11_holdsBack) (by assumption) (mX11_holdsBack ..) (fun p hp => by simp only [sX11_holdsBack, sX11_goesOn, List.mem_cons, List.not_mem_nil, or_false] at hp ⊢ <;> omega) (fun _ _ => ?_)
    | refine zPr.bw (S' := sX11_joins) (by assumption) (mX11_joins ..) (fun p hp => by simp only [sX11_joins, sX11_goesOn, List.mem_cons, List.not_mem_nil, or_false] at hp ⊢ <;> omega) (fun _ _ => ?_)
    | refine zPr.bw (S' := sX11_lex) (by assumption) (mX11_lex ..) (fun p hp => by simp only [sX11_lex, sX11_goesOn, List.mem_cons, List.not_mem_nil, or_false] at hp ⊢ <;> omega) (fun _ _ => ?_)
    | refine zPr.bnr (fun _ => ?_)
    | refine zPr.bnv (fun _ => ?_)
    | exact zPr.tail (S' := sX11_goesOn) (by assumption) (mX11_goesOn_499 ..) (fun _ h => h)
    | exact zPr.tail (S' := sX11_goesOn) (by assumption) (mX11_goesOn_470 ..) (fun _ h => h)
theorem mX11_goesOn_613 (σ : zS) : zPr (sX11_goesOn σ.2.2) σ Prod.snd (fX11_goesOn_613 σ) := by
  unfold fX11_goesOn_613
  have hc := zSm.rfl (sX11_goesOn σ.2.2) σ
  repeat' first
    | exact zPr.none
    | exact zPr.some (by assumption)
    | refine zPr.ite ?_ ?_
    | refine zPr.wI (by assumption) (by simp only [sX11_goesOn, List.mem_cons, List.not_mem_nil, or_false]; omega) (fun _ _ => ?_)
    | refine zPr.wL (by assumption) (by simp only [sX11_goesOn, List.mem_cons, List.not_mem_nil, or_false]; omega) (fun _ _ => ?_)
    | refine zPr.bI (by assumption) (by simp only [sX11_goesOn, List.mem_cons, List.not_mem_nil, or_false]; omega) (fun _ _ => ?_)
    | refine zPr.bL (by assumption) (by simp only [sX11_goesOn, List.mem_cons, List.not_mem_nil, or_false]; omega) (fun _ _ => ?_)
    | refine zPr.wC (by assumption) (by simp only [sX11_goesOn, List.mem_cons, List.not_mem_nil, or_false]; omega) (fun _ _ => ?_)
    | refine zPr.aI (fun _ => ?_)
    | refine zPr.aL (fun _ => ?_)
    | refine zPr.gd ?_
    | refine zPr.bw (S' := sX11_add) (by assumption) (mX11_add ..) (fun p hp => by simp only [sX11_add, sX11_goesOn, List.mem_cons, List.not_mem_nil, or_false] at hp ⊢ <;> omega) (fun _ _ => ?_)
    | refine zPr.bw (S' := sX11_ahead) (by assumption) (mX11_ahead ..) (fun p hp => by simp only [sX11_ahead, sX11_goesOn, List.mem_cons, List.not_mem_nil, or_false] at hp ⊢ <;> omega) (fun _ _ => ?_)
    | refine zPr.bw (S' := sX11_blame) (by assumption) (mX11_blame ..) (fun p hp => by simp only [sX11_blame, sX11_goesOn, List.mem_cons, List.not_mem_nil, or_false] at hp ⊢ <;> omega) (fun _ _ => ?_)
    | refine zPr.bw (S' := sX11_holdsBack) (by assumption) (mX11_holdsBack ..) (fun p hp => by simp only [sX11_holdsBack, sX11_goesOn, List.mem_cons, List.not_mem_nil, or_false] at hp ⊢ <;> omega) (fun _ _ => ?_)
    | refine zPr.bw (S' := sX11_joins) (by assumption) (mX11_joins ..) (fun p hp => by simp only [sX11_joins, sX11_goesOn, List.mem_cons, List.not_mem_nil, or_false] at hp ⊢ <;> omega) (fun _ _ => ?_)
    | refine zPr.bw (S' := sX11_lex) (by assumption) (mX11_lex ..) (fun p hp => by simp only [sX11_lex, sX11_goesOn, List.mem_cons, List.not_mem_nil, or_false] at hp ⊢ <;> omega) (fun _ _ => ?_)
    | refine zPr.bnr (fun _ => ?_)
    | refine zPr.bnv (fun _ => ?_)
    | exact zPr.tail (S' := sX11_goesOn) (by assumption) (mX11_goesOn_499 ..) (fun _ h => h)
    | exact zPr.tail (S' := sX11_goesOn) (by assumption) (mX11_goesOn_470 ..) (fun _ h => h)
    | exact zPr.tail (S' := sX11_goesOn) (by assumption) (mX11_goesOn_452 ..) (fun _ h => h)
theorem mX11_goesOn_596 (x2 : Int32) (σ : zS) : zPr (sX11_goesOn σ.2.2) σ Prod.snd (fX11_goesOn_596 x2 σ) := by
  unfold fX11_goesOn_596
  have hc := zSm.rfl (sX11_goesOn σ.2.2) σ
  repeat' first
    | exact zPr.none
    | exact zPr.some (by assumption)
    | refine zPr.ite ?_ ?_
    | refine zPr.wI (by assumption) (by simp only [sX11_goesOn, List.mem_cons, List.not_mem_nil, or_false]; omega) (fun _ _ => ?_)
    | refine zPr.wL (by assumption) (by simp only [sX11_goesOn, List.mem_cons, List.not_mem_nil, or_false]; omega) (fun _ _ => ?_)
    | refine zPr.bI (by assumption) (by simp only [sX11_goesOn, List.mem_cons, List.not_mem_nil, or_false]; omega) (fun _ _ => ?_)
    | refine zPr.bL (by assumption) (by simp only [sX11_goesOn, List.mem_cons, List.not_mem_nil, or_false]; omega) (fun _ _ => ?_)
    | refine zPr.wC (by assumption) (by simp only [sX11_goesOn, List.mem_cons, List.not_mem_nil, or_false]; omega) (fun _ _ => ?_)
    | refine zPr.aI (fun _ => ?_)
    | refine zPr.aL (fun _ => ?_)
    | refine zPr.gd ?_
    | refine zPr.bw (S' := sX11_add) (by assumption) (mX11_add ..) (fun p hp => by simp only [sX11_add, sX11_goesOn, List.mem_cons, List.not_mem_nil, or_false] at hp ⊢ <;> omega) (fun _ _ => ?_)
    | refine zPr.bw (S' := sX11_ahead) (by assumption) (mX11_ahead ..) (fun p hp => by simp only [sX11_ahead, sX11_goesOn, List.mem_cons, List.not_mem_nil, or_false] at hp ⊢ <;> omega) (fun _ _ => ?_)
    | refine zPr.bw (S' := sX11_blame) (by assumption) (mX11_blame ..) (fun p hp => by simp only [sX11_blame, sX11_goesOn, List.mem_cons, List.not_mem_nil, or_false] at hp ⊢ <;> omega) (fun _ _ => ?_)
    | refine zPr.bw (S' := sX11_holdsBack) (by assumption) (mX11_holdsBack ..) (fun p hp => by simp only [sX11_holdsBack, sX11_goesOn, List.mem_cons, List.not_mem_nil, or_false] at hp ⊢ <;> omega) (fun _ _ => ?_)
    | refine zPr.bw (S' := sX11_joins) (by assumption) (mX11_joins ..) (fun p hp => by simp only [sX11_joins, sX11_goesOn, List.mem_cons, List.not_mem_nil, or_false] at hp ⊢ <;> omega) (fun _ _ => ?_)
    | refine zPr.bw (S' := sX11_lex) (by assumption) (mX11_lex ..) (fun p hp => by simp only [sX11_lex, sX11_goesOn, List.mem_cons, List.not_mem_nil, or_false] at hp ⊢ <;> omega) (fun _ _ => ?_)
    | refine zPr.bnr (fun _ => ?_)
    | refine zPr.bnv (fun _ => ?_)
    | exact zPr.tail (S' := sX11_goesOn) (by assumption) (mX11_goesOn_499 ..) (fun _ h => h)
    | exact zPr.tail (S' := sX11_goesOn) (by assumption) (mX11_goesOn_470 ..) (fun _ h => h)
    | exact zPr.tail (S' := sX11_goesOn) (by assumption) (mX11_goesOn_452 ..) (fun _ h => h)
    | exact zPr.tail (S' := sX11_goesOn) (by assumption) (mX11_goesOn_613 ..) (fun _ h => h)
theorem mX11_goesOn_546 (x1 : Int32) (x2 : Int32) (σ : zS) : zPr (sX11_goesOn σ.2.2) σ Prod.snd (fX11_goesOn_546 x1 x2 σ) := by
  unfold fX11_goesOn_546
  have hc := zSm.rfl (sX11_goesOn σ.2.2) σ
  repeat' first
    | exact zPr.none
    | exact zPr.some (by assumption)
    | refine zPr.ite ?_ ?_
    | refine zPr.wI (by assumption) (by simp only [sX11_goesOn, List.mem_cons, List.not_mem_nil, or_false]; omega) (fun _ _ => ?_)
    | refine zPr.wL (by assumption) (by simp only [sX11_goesOn, List.mem_cons, List.not_mem_nil, or_false]; omega) (fun _ _ => ?_)
    | refine zPr.bI (by assumption) (by simp only [sX11_goesOn, List.mem_cons, List.not_mem_nil, or_false]; omega) (fun _ _ => ?_)
    | refine zPr.bL (by assumption) (by simp only [sX11_goesOn, List.mem_cons, List.not_mem_nil, or_false]; omega) (fun _ _ => ?_)
    | refine zPr.wC (by assumption) (by simp only [sX11_goesOn, List.mem_cons, List.not_mem_nil, or_false]; omega) (fun _ _ => ?_)
    | refine zPr.aI (fun _ => ?_)
    | refine zPr.aL (fun _ => ?_)
    | refine zPr.gd ?_
    | refine zPr.bw (S' := sX11_add) (by assumption) (mX11_add ..) (fun p hp => by simp only [sX11_add, sX11_goesOn, List.mem_cons, List.not_mem_nil, or_false] at hp ⊢ <;> omega) (fun _ _ => ?_)
    | refine zPr.bw (S' := sX11_ahead) (by assumption) (mX11_ahead ..) (fun p hp => by simp only [sX11_ahead, sX11_goesOn, List.mem_cons, List.not_mem_nil, or_false] at hp ⊢ <;> omega) (fun _ _ => ?_)
    | refine zPr.bw (S' := sX11_blame) (by assumption) (mX11_blame ..) (fun p hp => by simp only [sX11_blame, sX11_goesOn, List.mem_cons, List.not_mem_nil, or_false] at hp ⊢ <;> omega) (fun _ _ => ?_)
    | refine zPr.bw (S' := sX11_holdsBack) (by assumption) (mX11_holdsBack ..) (fun p hp => by simp only [sX11_holdsBack, sX11_goesOn, List.mem_cons, List.not_mem_nil, or_false] at hp ⊢ <;> omega) (fun _ _ => ?_)
    | refine zPr.bw (S' := sX11_joins) (by assumption) (mX11_joins ..) (fun p hp => by simp only [sX11_joins, sX11_goesOn, List.mem_cons, List.not_mem_nil, or_false] at hp ⊢ <;> omega) (fun _ _ => ?_)
    | refine zPr.bw (S' := sX11_lex) (by assumption) (mX11_lex ..) (fun p hp => by simp only [sX11_lex, sX11_goesOn, List.mem_cons, List.not_mem_nil, or_false] at hp ⊢ <;> omega) (fun _ _ => ?_)
    | refine zPr.bnr (fun _ => ?_)
    | refine zPr.bnv (fun _ => ?_)
    | exact zPr.tail (S' := sX11_goesOn) (by assumption) (mX11_goesOn_499 ..) (fun _ h => h)
    | exact zPr.tail (S' := sX11_goesOn) (by assumption) (mX11_goesOn_470 ..) (fun _ h => h)
    | exact zPr.tail (S' := sX11_goesOn) (by assumption) (mX11_goesOn_452 ..) (fun _ h => h)
    | exact zPr.tail (S' := sX11_goesOn) (by assumption) (mX11_goesOn_613 ..) (fun _ h => h)
    | exact zPr.tail (S' := sX11_goesOn) (by assumption) (mX11_goesOn_596 ..) (fun _ h => h)
theorem mX11_goesOn_531 (x1 : Int32) (x2 : Int32) (s0 : Int32) (σ : zS) : zPr (sX11_goesOn σ.2.2) σ Prod.snd (fX11_goesOn_531 x1 x2 s0 σ) := by
  unfold fX11_goesOn_531
  have hc := zSm.rfl (sX11_goesOn σ.2.2) σ
  repeat' first
    | exact zPr.none
    | exact zPr.some (by assumption)
    | refine zPr.ite ?_ ?_
    | refine zPr.wI (by assumption) (by simp only [sX11_goesOn, List.mem_cons, List.not_mem_nil, or_false]; omega) (fun _ _ => ?_)
    | refine zPr.wL (by assumption) (by simp only [sX11_goesOn, List.mem_cons, List.not_mem_nil, or_false]; omega) (fun _ _ => ?_)
    | refine zPr.bI (by assumption) (by simp only [sX11_goesOn, List.mem_cons, List.not_mem_nil, or_false]; omega) (fun _ _ => ?_)
    | refine zPr.bL (by assumption) (by simp only [sX11_goesOn, List.mem_cons, List.not_mem_nil, or_false]; omega) (fun _ _ => ?_)
    | refine zPr.wC (by assumption) (by simp only [sX11_goesOn, List.mem_cons, List.not_mem_nil, or_false]; omega) (fun _ _ => ?_)
    | refine zPr.aI (fun _ => ?_)
    | refine zPr.aL (fun _ => ?_)
    | refine zPr.gd ?_
    | refine zPr.bw (S' := sX11_add) (by assumption) (mX11_add ..) (fun p hp => by simp only [sX11_add, sX11_goesOn, List.mem_cons, List.not_mem_nil, or_false] at hp ⊢ <;> omega) (fun _ _ => ?_)
    | refine zPr.bw (S' := sX11_ahead) (by assumption) (mX11_ahead ..) (fun p hp => by simp only [sX11_ahead, sX11_goesOn, List.mem_cons, List.not_mem_nil, or_false] at hp ⊢ <;> omega) (fun _ _ => ?_)
    | refine zPr.bw (S' := sX11_blame) (by assumption) (mX11_blame ..) (fun p hp => by simp only [sX11_blame, sX11_goesOn, List.mem_cons, List.not_mem_nil, or_false] at hp ⊢ <;> omega) (fun _ _ => ?_)
    | refine zPr.bw (S' := sX11_holdsBack) (by assumption) (mX11_holdsBack ..) (fun p hp => by simp only [sX11_holdsBack, sX11_goesOn, List.mem_cons, List.not_mem_nil, or_false] at hp ⊢ <;> omega) (fun _ _ => ?_)
    | refine zPr.bw (S' := sX11_joins) (by assumption) (mX11_joins ..) (fun p hp => by simp only [sX11_joins, sX11_goesOn, List.mem_cons, List.not_mem_nil, or_false] at hp ⊢ <;> omega) (fun _ _ => ?_)
    | refine zPr.bw (S' := sX11_lex) (by assumption) (mX11_lex ..) (fun p hp => by simp only [sX11_lex, sX11_goesOn, List.mem_cons, List.not_mem_nil, or_false] at hp ⊢ <;> omega) (fun _ _ => ?_)
    | refine zPr.bnr (fun _ => ?_)
    | refine zPr.bnv (fun _ => ?_)
    | exact zPr.tail (S' := sX11_goesOn) (by assumption) (mX11_goesOn_499 ..) (fun _ h => h)
    | exact zPr.tail (S' := sX11_goesOn) (by assumption) (mX11_goesOn_470 ..) (fun _ h => h)
    | exact zPr.tail (S' := sX11_goesOn) (by assumption) (mX11_goesOn_452 ..) (fun _ h => h)
    | exact zPr.tail (S' := sX11_goesOn) (by assumption) (mX11_goesOn_613 ..) (fun _ h => h)
    | exact zPr.tail (S' := sX11_goesOn) (by assumption) (mX11_goesOn_596 ..) (fun _ h => h)
    | exact zPr.tail (S' := sX11_goesOn) (by assumption) (mX11_goesOn_546 ..) (fun _ h => h)
theorem mX11_goesOn_422 (x1 : Int32) (x2 : Int32) (σ : zS) : zPr (sX11_goesOn σ.2.2) σ Prod.snd (fX11_goesOn_422 x1 x2 σ) := by
  unfold fX11_goesOn_422
  have hc := zSm.rfl (sX11_goesOn σ.2.2) σ
  repeat' first
    | exact zPr.none
    | exact zPr.some (by assumption)
    | refine zPr.ite ?_ ?_
    | refine zPr.wI (by assumption) (by simp only [sX11_goesOn, List.mem_cons, List.not_mem_nil, or_false]; omega) (fun _ _ => ?_)
    | refine zPr.wL (by assumption) (by simp only [sX11_goesOn, List.mem_cons, List.not_mem_nil, or_false]; omega) (fun _ _ => ?_)
    | refine zPr.bI (by assumption) (by simp only [sX11_goesOn, List.mem_cons, List.not_mem_nil, or_false]; omega) (fun _ _ => ?_)
    | refine zPr.bL (by assumption) (by simp only [sX11_goesOn, List.mem_cons, List.not_mem_nil, or_false]; omega) (fun _ _ => ?_)
    | refine zPr.wC (by assumption) (by simp only [sX11_goesOn, List.mem_cons, List.not_mem_nil, or_false]; omega) (fun _ _ => ?_)
    | refine zPr.aI (fun _ => ?_)
    | refine zPr.aL (fun _ => ?_)
    | refine zPr.gd ?_
    | refine zPr.bw (S' := sX11_add) (by assumption) (mX11_add ..) (fun p hp => by simp only [sX11_add, sX11_goesOn, List.mem_cons, List.not_mem_nil, or_false] at hp ⊢ <;> omega) (fun _ _ => ?_)
    | refine zPr.bw (S' := sX11_ahead) (by assumption) (mX11_ahead ..) (fun p hp => by simp only [sX11_ahead, sX11_goesOn, List.mem_cons, List.not_mem_nil, or_false] at hp ⊢ <;> omega) (fun _ _ => ?_)
    | refine zPr.bw (S' := sX11_blame) (by assumption) (mX11_blame ..) (fun p hp => by simp only [sX11_blame, sX11_goesOn, List.mem_cons, List.not_mem_nil, or_false] at hp ⊢ <;> omega) (fun _ _ => ?_)
    | refine zPr.bw (S' := sX11_holdsBack) (by assumption) (mX11_holdsBack ..) (fun p hp => by simp only [sX11_holdsBack, sX11_goesOn, List.mem_cons, List.not_mem_nil, or_false] at hp ⊢ <;> omega) (fun _ _ => ?_)
    | refine zPr.bw (S' := sX11_joins) (by assumption) (mX11_joins ..) (fun p hp => by simp only [sX11_joins, sX11_goesOn, List.mem_cons, List.not_mem_nil, or_false] at hp ⊢ <;> omega) (fun _ _ => ?_)
    | refine zPr.bw (S' := sX11_lex) (by assumption) (mX11_lex ..) (fun p hp => by simp only [sX11_lex, sX11_goesOn, List.mem_cons, List.not_mem_nil, or_false] at hp ⊢ <;> omega) (fun _ _ => ?_)
    | refine zPr.bnr (fun _ => ?_)
    | refine zPr.bnv (fun _ => ?_)
    | exact zPr.tail (S' := sX11_goesOn) (by assumption) (mX11_goesOn_499 ..) (fun _ h => h)
    | exact zPr.tail (S' := sX11_goesOn) (by assumption) (mX11_goesOn_470 ..) (fun _ h => h)
    | exact zPr.tail (S' := sX11_goesOn) (by assumption) (mX11_goesOn_452 ..) (fun _ h => h)
    | exact zPr.tail (S' := sX11_goesOn) (by assumption) (mX11_goesOn_613 ..) (fun _ h => h)
    | exact zPr.tail (S' := sX11_goesOn) (by assumption) (mX11_goesOn_596 ..) (fun _ h => h)
    | exact zPr.tail (S' := sX11_goesOn) (by assumption) (mX11_goesOn_546 ..) (fun _ h => h)
    | exact zPr.tail (S' := sX11_goesOn) (by assumption) (mX11_goesOn_531 ..) (fun _ h => h)
theorem mX11_goesOn_400 (x1 : Int32) (x2 : Int32) (x3 : Int32) (σ : zS) : zPr (sX11_goesOn σ.2.2) σ Prod.snd (fX11_goesOn_400 x1 x2 x3 σ) := by
  unfold fX11_goesOn_400
  have hc := zSm.rfl (sX11_goesOn σ.2.2) σ
  repeat' first
    | exact zPr.none
    | exact zPr.some (by assumption)
    | refine zPr.ite ?_ ?_
    | refine zPr.wI (by assumption) (by simp only [sX11_goesOn, List.mem_cons, List.not_mem_nil, or_false]; omega) (fun _ _ => ?_)
    | refine zPr.wL (by assumption) (by simp only [sX11_goesOn, List.mem_cons, List.not_mem_nil, or_false]; omega) (fun _ _ => ?_)
    | refine zPr.bI (by assumption) (by simp only [sX11_goesOn, List.mem_cons, List.not_mem_nil, or_false]; omega) (fun _ _ => ?_)
    | refine zPr.bL (by assumption) (by simp only [sX11_goesOn, List.mem_cons, List.not_mem_nil, or_false]; omega) (fun _ _ => ?_)
    | refine zPr.wC (by assumption) (by simp only [sX11_goesOn, List.mem_cons, List.not_mem_nil, or_false]; omega) (fun _ _ => ?_)
    | refine zPr.aI (fun _ => ?_)
    | refine zPr.aL (fun _ => ?_)
    | refine zPr.gd ?_
    | refine zPr.bw (S' := sX11_add) (by assumption) (mX11_add ..) (fun p hp => by simp only [sX11_add, sX11_goesOn, List.mem_cons, List.not_mem_nil, or_false] at hp ⊢ <;> omega) (fun _ _ => ?_)
    | refine zPr.bw (S' := sX11_ahead) (by assumption) (mX11_ahead ..) (fun p hp => by simp only [sX11_ahead, sX11_goesOn, List.mem_cons, List.not_mem_nil, or_false] at hp ⊢ <;> omega) (fun _ _ => ?_)
    | refine zPr.bw (S' := sX11_blame) (by assumption) (mX11_blame ..) (fun p hp => by simp only [sX11_blame, sX11_goesOn, List.mem_cons, List.not_mem_nil, or_false] at hp ⊢ <;> omega) (fun _ _ => ?_)
    | refine zPr.bw (S' := sX11_holdsBack) (by assumption) (mX11_holdsBack ..) (fun p hp => by simp only [sX11_holdsBack, sX11_goesOn, List.mem_cons, List.not_mem_nil, or_false] at hp ⊢ <;> omega) (fun _ _ => ?_)
    | refine zPr.bw (S' := sX11_joins) (by assumption) (mX11_joins ..) (fun p hp => by simp only [sX11_joins, sX11_goesOn, List.mem_cons, List.not_mem_nil, or_false] at hp ⊢ <;> omega) (fun _ _ => ?_)
    | refine zPr.bw (S' := sX11_lex) (by assumption) (mX11_lex ..) (fun p hp => by simp only [sX11_lex, sX11_goesOn, List.mem_cons, List.not_mem_nil, or_false] at hp ⊢ <;> omega) (fun _ _ => ?_)
    | refine zPr.bnr (fun _ => ?_)
    | refine zPr.bnv (fun _ => ?_)
    | exact zPr.tail (S' := sX11_goesOn) (by assumption) (mX11_goesOn_499 ..) (fun _ h => h)
    | exact zPr.tail (S' := sX11_goesOn) (by assumption) (mX11_goesOn_470 ..) (fun _ h => h)
    | exact zPr.tail (S' := sX11_goesOn) (by assumption) (mX11_goesOn_452 ..) (fun _ h => h)
    | exact zPr.tail (S' := sX11_goesOn) (by assumption) (mX11_goesOn_613 ..) (fun _ h => h)
    | exact zPr.tail (S' := sX11_goesOn) (by assumption) (mX11_goesOn_596 ..) (fun _ h => h)
    | exact zPr.tail (S' := sX11_goesOn) (by assumption) (mX11_goesOn_546 ..) (fun _ h => h)
    | exact zPr.tail (S' := sX11_goesOn) (by assumption) (mX11_goesOn_531 ..) (fun _ h => h)
    | exact zPr.tail (S' := sX11_goesOn) (by assumption) (mX11_goesOn_422 ..) (fun _ h => h)
theorem mX11_goesOn_372 (x1 : Int32) (s0 : Int32) (σ : zS) : zPr (sX11_goesOn σ.2.2) σ Prod.snd (fX11_goesOn_372 x1 s0 σ) := by
  unfold fX11_goesOn_372
  have hc := zSm.rfl (sX11_goesOn σ.2.2) σ
  repeat' first
    | exact zPr.none
    | exact zPr.some (by assumption)
    | refine zPr.ite ?_ ?_
    | refine zPr.wI (by assumption) (by simp only [sX11_goesOn, List.mem_cons, List.not_mem_nil, or_false]; omega) (fun _ _ => ?_)
    | refine zPr.wL (by assumption) (by simp only [sX11_goesOn, List.mem_cons, List.not_mem_nil, or_false]; omega) (fun _ _ => ?_)
    | refine zPr.bI (by assumption) (by simp only [sX11_goesOn, List.mem_cons, List.not_mem_nil, or_false]; omega) (fun _ _ => ?_)
    | refine zPr.bL (by assumption) (by simp only [sX11_goesOn, List.mem_cons, List.not_mem_nil, or_false]; omega) (fun _ _ => ?_)
    | refine zPr.wC (by assumption) (by simp only [sX11_goesOn, List.mem_cons, List.not_mem_nil, or_false]; omega) (fun _ _ => ?_)
    | refine zPr.aI (fun _ => ?_)
    | refine zPr.aL (fun _ => ?_)
    | refine zPr.gd ?_
    | refine zPr.bw (S' := sX11_add) (by assumption) (mX11_add ..) (fun p hp => by simp only [sX11_add, sX11_goesOn, List.mem_cons, List.not_mem_nil, or_false] at hp ⊢ <;> omega) (fun _ _ => ?_)
    | refine zPr.bw (S' := sX11_ahead) (by assumption) (mX11_ahead ..) (fun p hp => by simp only [sX11_ahead, sX11_goesOn, List.mem_cons, List.not_mem_nil, or_false] at hp ⊢ <;> omega) (fun _ _ => ?_)
    | refine zPr.bw (S' := sX11_blame) (by assumption) (mX11_blame ..) (fun p hp => by simp only [sX11_blame, sX11_goesOn, List.mem_cons, List.not_mem_nil, or_false] at hp ⊢ <;> omega) (fun _ _ => ?_)
    | refine zPr.bw (S' := sX11_holdsBack) (by assumption) (mX11_holdsBack ..) (fun p hp => by simp only [sX11_holdsBack, sX11_goesOn, List.mem_cons, List.not_mem_nil, or_false] at hp ⊢ <;> omega) (fun _ _ => ?_)
    | refine zPr.bw (S' := sX11_joins) (by assumption) (mX11_joins ..) (fun p hp => by simp only [sX11_joins, sX11_goesOn, List.mem_cons, List.not_mem_nil, or_false] at hp ⊢ <;> omega) (fun _ _ => ?_)
    | refine zPr.bw (S' := sX11_lex) (by assumption) (mX11_lex ..) (fun p hp => by simp only [sX11_lex, sX11_goesOn, List.mem_cons, List.not_mem_nil, or_false] at hp ⊢ <;> omega) (fun _ _ => ?_)
    | refine zPr.bnr (fun _ => ?_)
    | refine zPr.bnv (fun _ => ?_)
    | exact zPr.tail (S' := sX11_goesOn) (by assumption) (mX11_goesOn_499 ..) (fun _ h => h)
    | exact zPr.tail (S' := sX11_goesOn) (by assumption) (mX11_goesOn_470 ..) (fun _ h => h)
    | exact zPr.tail (S' := sX11_goesOn) (by assumption) (mX11_goesOn_452 ..) (fun _ h => h)
    | exact zPr.tail (S' := sX11_goesOn) (by assumption) (mX11_goesOn_613 ..) (fun _ h => h)
    | exact zPr.tail (S' := sX11_goesOn) (by assumption) (mX11_goesOn_596 ..) (fun _ h => h)
    | exact zPr.tail (S' := sX11_goesOn) (by assumption) (mX11_goesOn_546 ..) (fun _ h => h)
    | exact zPr.tail (S' := sX11_goesOn) (by assumption) (mX11_goesOn_531 ..) (fun _ h => h)
    | exact zPr.tail (S' := sX11_goesOn) (by assumption) (mX11_goesOn_422 ..) (fun _ h => h)
    | exact zPr.tail (S' := sX11_goesOn) (by assumption) (mX11_goesOn_400 ..) (fun _ h => h)
theorem mX11_goesOn_356 (x1 : Int32) (x4 : Int32) (s0 : Int32) (σ : zS) : zPr (sX11_goesOn σ.2.2) σ Prod.snd (fX11_goesOn_356 x1 x4 s0 σ) := by
  unfold fX11_goesOn_356
  have hc := zSm.rfl (sX11_goesOn σ.2.2) σ
  repeat' first
    | exact zPr.none
    | exact zPr.some (by assumption)
    | refine zPr.ite ?_ ?_
    | refine zPr.wI (by assumption) (by simp only [sX11_goesOn, List.mem_cons, List.not_mem_nil, or_false]; omega) (fun _ _ => ?_)
    | refine zPr.wL (by assumption) (by simp only [sX11_goesOn, List.mem_cons, List.not_mem_nil, or_false]; omega) (fun _ _ => ?_)
    | refine zPr.bI (by assumption) (by simp only [sX11_goesOn, List.mem_cons, List.not_mem_nil, or_false]; omega) (fun _ _ => ?_)
    | refine zPr.bL (by assumption) (by simp only [sX11_goesOn, List.mem_cons, List.not_mem_nil, or_false]; omega) (fun _ _ => ?_)
    | refine zPr.wC (by assumption) (by simp only [sX11_goesOn, List.mem_cons, List.not_mem_nil, or_false]; omega) (fun _ _ => ?_)
    | refine zPr.aI (fun _ => ?_)
    | refine zPr.aL (fun _ => ?_)
    | refine zPr.gd ?_
    | refine zPr.bw (S' := sX11_add) (by assumption) (mX11_add ..) (fun p hp => by simp only [sX11_add, sX11_goesOn, List.mem_cons, List.not_mem_nil, or_false] at hp ⊢ <;> omega) (fun _ _ => ?_)
    | refine zPr.bw (S' := sX11_ahead) (by assumption) (mX11_ahead ..) (fun p hp => by simp only [sX11_ahead, sX11_goesOn, List.mem_cons, List.not_mem_nil, or_false] at hp ⊢ <;> omega) (fun _ _ => ?_)
    | refine zPr.bw (S' := sX11_blame) (by assumption) (mX11_blame ..) (fun p hp => by simp only [sX11_blame, sX11_goesOn, List.mem_cons, List.not_mem_nil, or_false] at hp ⊢ <;> omega) (fun _ _ => ?_)
    | refine zPr.bw (S' := sX11_holdsBack) (by assumption) (mX11_holdsBack ..) (fun p hp => by simp only [sX11_holdsBack, sX11_goesOn, List.mem_cons, List.not_mem_nil, or_false] at hp ⊢ <;> omega) (fun _ _ => ?_)
    | refine zPr.bw (S' := sX11_joins) (by assumption) (mX11_joins ..) (fun p hp => by simp only [sX11_joins, sX11_goesOn, List.mem_cons, List.not_mem_nil, or_false] at hp ⊢ <;> omega) (fun _ _ => ?_)
    | refine zPr.bw (S' := sX11_lex) (by assumption) (mX11_lex ..) (fun p hp => by simp only [sX11_lex, sX11_goesOn, List.mem_cons, List.not_mem_nil, or_false] at hp ⊢ <;> omega) (fun _ _ => ?_)
    | refine zPr.bnr (fun _ => ?_)
    | refine zPr.bnv (fun _ => ?_)
    | exact zPr.tail (S' := sX11_goesOn) (by assumption) (mX11_goesOn_499 ..) (fun _ h => h)
    | exact zPr.tail (S' := sX11_goesOn) (by assumption) (mX11_goesOn_470 ..) (fun _ h => h)
    | exact zPr.tail (S' := sX11_goesOn) (by assumption) (mX11_goesOn_452 ..) (fun _ h => h)
    | exact zPr.tail (S' := sX11_goesOn) (by assumption) (mX11_goesOn_613 ..) (fun _ h => h)
    | exact zPr.tail (S' := sX11_goesOn) (by assumption) (mX11_goesOn_596 ..) (fun _ h => h)
    | exact zPr.tail (S' := sX11_goesOn) (by assumption) (mX11_goesOn_546 ..) (fun _ h => h)
    | exact zPr.tail (S' := sX11_goesOn) (by assumption) (mX11_goesOn_531 ..) (fun _ h => h)
    | exact zPr.tail (S' := sX11_goesOn) (by assumption) (mX11_goesOn_422 ..) (fun _ h => h)
    | exact zPr.tail (S' := sX11_goesOn) (by assumption) (mX11_goesOn_400 ..) (fun _ h => h)
    | exact zPr.tail (S' := sX11_goesOn) (by assumption) (mX11_goesOn_372 ..) (fun _ h => h)
theorem mX11_goesOn_327 (x1 : Int32) (σ : zS) : zPr (sX11_goesOn σ.2.2) σ Prod.snd (fX11_goesOn_327 x1 σ) := by
  unfold fX11_goesOn_327
  have hc := zSm.rfl (sX11_goesOn σ.2.2) σ
  repeat' first
    | exact zPr.none
    | exact zPr.some (by assumption)
    | refine zPr.ite ?_ ?_
    | refine zPr.wI (by assumption) (by simp only [sX11_goesOn, List.mem_cons, List.not_mem_nil, or_false]; omega) (fun _ _ => ?_)
    | refine zPr.wL (by assumption) (by simp only [sX11_goesOn, List.mem_cons, List.not_mem_nil, or_false]; omega) (fun _ _ => ?_)
    | refine zPr.bI (by assumption) (by simp only [sX11_goesOn, List.mem_cons, List.not_mem_nil, or_false]; omega) (fun _ _ => ?_)
    | refine zPr.bL (by assumption) (by simp only [sX11_goesOn, List.mem_cons, List.not_mem_nil, or_false]; omega) (fun _ _ => ?_)
    | refine zPr.wC (by assumption) (by simp only [sX11_goesOn, List.mem_cons, List.not_mem_nil, or_false]; omega) (fun _ _ => ?_)
    | refine zPr.aI (fun _ => ?_)
    | refine zPr.aL (fun _ => ?_)
    | refine zPr.gd ?_
    | refine zPr.bw (S' := sX11_add) (by assumption) (mX11_add ..) (fun p hp => by simp only [sX11_add, sX11_goesOn, List.mem_cons, List.not_mem_nil, or_false] at hp ⊢ <;> omega) (fun _ _ => ?_)
    | refine zPr.bw (S' := sX11_ahead) (by assumption) (mX11_ahead ..) (fun p hp => by simp only [sX11_ahead, sX11_goesOn, List.mem_cons, List.not_mem_nil, or_false] at hp ⊢ <;> omega) (fun _ _ => ?_)
    | refine zPr.bw (S' := sX11_blame) (by assumption) (mX11_blame ..) (fun p hp => by simp only [sX11_blame, sX11_goesOn, List.mem_cons, List.not_mem_nil, or_false] at hp ⊢ <;> omega) (fun _ _ => ?_)
    | refine zPr.bw (S' := sX11_holdsBack) (by assumption) (mX11_holdsBack ..) (fun p hp => by simp only [sX11_holdsBack, sX11_goesOn, List.mem_cons, List.not_mem_nil, or_false] at hp ⊢ <;> omega) (fun _ _ => ?_)
    | refine zPr.bw (S' := sX11_joins) (by assumption) (mX11_joins ..) (fun p hp => by simp only [sX11_joins, sX11_goesOn, List.mem_cons, List.not_mem_nil, or_false] at hp ⊢ <;> omega) (fun _ _ => ?_)
    | refine zPr.bw (S' := sX11_lex) (by assumption) (mX11_lex ..) (fun p hp => by simp only [sX11_lex, sX11_goesOn, List.mem_cons, List.not_mem_nil, or_false] at hp ⊢ <;> omega) (fun _ _ => ?_)
    | refine zPr.bnr (fun _ => ?_)
    | refine zPr.bnv (fun _ => ?_)
    | exact zPr.tail (S' := sX11_goesOn) (by assumption) (mX11_goesOn_499 ..) (fun _ h => h)
    | exact zPr.tail (S' := sX11_goesOn) (by assumption) (mX11_goesOn_470 ..) (fun _ h => h)
    | exact zPr.tail (S' := sX11_goesOn) (by assumption) (mX11_goesOn_452 ..) (fun _ h => h)
    | exact zPr.tail (S' := sX11_goesOn) (by assumption) (mX11_goesOn_613 ..) (fun _ h => h)
    | exact zPr.tail (S' := sX11_goesOn) (by assumption) (mX11_goesOn_596 ..) (fun _ h => h)
    | exact zPr.tail (S' := sX11_goesOn) (by assumption) (mX11_goesOn_546 ..) (fun _ h => h)
    | exact zPr.tail (S' := sX11_goesOn) (by assumption) (mX11_goesOn_531 ..) (fun _ h => h)
    | exact zPr.tail (S' := sX11_goesOn) (by assumption) (mX11_goesOn_422 ..) (fun _ h => h)
    | exact zPr.tail (S' := sX11_goesOn) (by assumption) (mX11_goesOn_400 ..) (fun _ h => h)
    | exact zPr.tail (S' := sX11_goesOn) (by assumption) (mX11_goesOn_372 ..) (fun _ h => h)
    | exact zPr.tail (S' := sX11_goesOn) (by assumption) (mX11_goesOn_356 ..) (fun _ h => h)
theorem mX11_goesOn_309 (x1 : Int32) (σ : zS) : zPr (sX11_goesOn σ.2.2) σ Prod.snd (fX11_goesOn_309 x1 σ) := by
  unfold fX11_goesOn_309
  have hc := zSm.rfl (sX11_goesOn σ.2.2) σ
  repeat' first
    | exact zPr.none
    | exact zPr.some (by assumption)
    | refine zPr.ite ?_ ?_
    | refine zPr.wI (by assumption) (by simp only [sX11_goesOn, List.mem_cons, List.not_mem_nil, or_false]; omega) (fun _ _ => ?_)
    | refine zPr.wL (by assumption) (by simp only [sX11_goesOn, List.mem_cons, List.not_mem_nil, or_false]; omega) (fun _ _ => ?_)
    | refine zPr.bI (by assumption) (by simp only [sX11_goesOn, List.mem_cons, List.not_mem_nil, or_false]; omega) (fun _ _ => ?_)
    | refine zPr.bL (by assumption) (by simp only [sX11_goesOn, List.mem_cons, List.not_mem_nil, or_false]; omega) (fun _ _ => ?_)
    | refine zPr.wC (by assumption) (by simp only [sX11_goesOn, List.mem_cons, List.not_mem_nil, or_false]; omega) (fun _ _ => ?_)
    | refine zPr.aI (fun _ => ?_)
    | refine zPr.aL (fun _ => ?_)
    | refine zPr.gd ?_
    | refine zPr.bw (S' := sX11_add) (by assumption) (mX11_add ..) (fun p hp => by simp only [sX11_add, sX11_goesOn, List.mem_cons, List.not_mem_nil, or_false] at hp ⊢ <;> omega) (fun _ _ => ?_)
    | refine zPr.bw (S' := sX11_ahead) (by assumption) (mX11_ahead ..) (fun p hp => by simp only [sX11_ahead, sX11_goesOn, List.mem_cons, List.not_mem_nil, or_false] at hp ⊢ <;> omega) (fun _ _ => ?_)
    | refine zPr.bw (S' := sX11_blame) (by assumption) (mX11_blame ..) (fun p hp => by simp only [sX11_blame, sX11_goesOn, List.mem_cons, List.not_mem_nil, or_false] at hp ⊢ <;> omega) (fun _ _ => ?_)
    | refine zPr.bw (S' := sX11_holdsBack) (by assumption) (mX11_holdsBack ..) (fun p hp => by simp only [sX11_holdsBack, sX11_goesOn, List.mem_cons, List.not_mem_nil, or_false] at hp ⊢ <;> omega) (fun _ _ => ?_)
    | refine zPr.bw (S' := sX11_joins) (by assumption) (mX11_joins ..) (fun p hp => by simp only [sX11_joins, sX11_goesOn, List.mem_cons, List.not_mem_nil, or_false] at hp ⊢ <;> omega) (fun _ _ => ?_)
    | refine zPr.bw (S' := sX11_lex) (by assumption) (mX11_lex ..) (fun p hp => by simp only [sX11_lex, sX11_goesOn, List.mem_cons, List.not_mem_nil, or_false] at hp ⊢ <;> omega) (fun _ _ => ?_)
    | refine zPr.bnr (fun _ => ?_)
    | refine zPr.bnv (fun _ => ?_)
    | exact zPr.tail (S' := sX11_goesOn) (by assumption) (mX11_goesOn_499 ..) (fun _ h => h)
    | exact zPr.tail (S' := sX11_goesOn) (by assumption) (mX11_goesOn_470 ..) (fun _ h => h)
    | exact zPr.tail (S' := sX11_goesOn) (by assumption) (mX11_goesOn_452 ..) (fun _ h => h)
    | exact zPr.tail (S' := sX11_goesOn) (by assumption) (mX11_goesOn_613 ..) (fun _ h => h)
    | exact zPr.tail (S' := sX11_goesOn) (by assumption) (mX11_goesOn_596 ..) (fun _ h => h)
    | exact zPr.tail (S' := sX11_goesOn) (by assumption) (mX11_goesOn_546 ..) (fun _ h => h)
    | exact zPr.tail (S' := sX11_goesOn) (by assumption) (mX11_goesOn_531 ..) (fun _ h => h)
    | exact zPr.tail (S' := sX11_goesOn) (by assumption) (mX11_goesOn_422 ..) (fun _ h => h)
    | exact zPr.tail (S' := sX11_goesOn) (by assumption) (mX11_goesOn_400 ..) (fun _ h => h)
    | exact zPr.tail (S' := sX11_goesOn) (by assumption) (mX11_goesOn_372 ..) (fun _ h => h)
    | exact zPr.tail (S' := sX11_goesOn) (by assumption) (mX11_goesOn_356 ..) (fun _ h => h)
    | exact zPr.tail (S' := sX11_goesOn) (by assumption) (mX11_goesOn_327 ..) (fun _ h => h)
theorem mX11_goesOn_285 (x1 : Int32) (x2 : Int32) (x3 : Int32) (σ : zS) : zPr (sX11_goesOn σ.2.2) σ Prod.snd (fX11_goesOn_285 x1 x2 x3 σ) := by
  unfold fX11_goesOn_285
  have hc := zSm.rfl (sX11_goesOn σ.2.2) σ
  repeat' first
    | exact zPr.none
    | exact zPr.some (by assumption)
    | refine zPr.ite ?_ ?_
    | refine zPr.wI (by assumption) (by simp only [sX11_goesOn, List.mem_cons, List.not_mem_nil, or_false]; omega) (fun _ _ => ?_)
    | refine zPr.wL (by assumption) (by simp only [sX11_goesOn, List.mem_cons, List.not_mem_nil, or_false]; omega) (fun _ _ => ?_)
    | refine zPr.bI (by assumption) (by simp only [sX11_goesOn, List.mem_cons, List.not_mem_nil, or_false]; omega) (fun _ _ => ?_)
    | refine zPr.bL (by assumption) (by simp only [sX11_goesOn, List.mem_cons, List.not_mem_nil, or_false]; omega) (fun _ _ => ?_)
    | refine zPr.wC (by assumption) (by simp only [sX11_goesOn, List.mem_cons, List.not_mem_nil, or_false]; omega) (fun _ _ => ?_)
    | refine zPr.aI (fun _ => ?_)
    | refine zPr.aL (fun _ => ?_)
    | refine zPr.gd ?_
    | refine zPr.bw (S' := sX11_add) (by assumption) (mX11_add ..) (fun p hp => by simp only [sX11_add, sX11_goesOn, List.mem_cons, List.not_mem_nil, or_false] at hp ⊢ <;> omega) (fun _ _ => ?_)
    | refine zPr.bw (S' := sX11_ahead) (by assumption) (mX11_ahead ..) (fun p hp => by simp only [sX11_ahead, sX11_goesOn, List.mem_cons, List.not_mem_nil, or_false] at hp ⊢ <;> omega) (fun _ _ => ?_)
    | refine zPr.bw (S' := sX11_blame) (by assumption) (mX11_blame ..) (fun p hp => by simp only [sX11_blame, sX11_goesOn, List.mem_cons, List.not_mem_nil, or_false] at hp ⊢ <;> omega) (fun _ _ => ?_)
    | refine zPr.bw (S' := sX11_holdsBack) (by assumption) (mX11_holdsBack ..) (fun p hp => by simp only [sX11_holdsBack, sX11_goesOn, List.mem_cons, List.not_mem_nil, or_false] at hp ⊢ <;> omega) (fun _ _ => ?_)
    | refine zPr.bw (S' := sX11_joins) (by assumption) (mX11_joins ..) (fun p hp => by simp only [sX11_joins, sX11_goesOn, List.mem_cons, List.not_mem_nil, or_false] at hp ⊢ <;> omega) (fun _ _ => ?_)
    | refine zPr.bw (S' := sX11_lex) (by assumption) (mX11_lex ..) (fun p hp => by simp only [sX11_lex, sX11_goesOn, List.mem_cons, List.not_mem_nil, or_false] at hp ⊢ <;> omega) (fun _ _ => ?_)
    | refine zPr.bnr (fun _ => ?_)
    | refine zPr.bnv (fun _ => ?_)
    | exact zPr.tail (S' := sX11_goesOn) (by assumption) (mX11_goesOn_499 ..) (fun _ h => h)
    | exact zPr.tail (S' := sX11_goesOn) (by assumption) (mX11_goesOn_470 ..) (fun _ h => h)
    | exact zPr.tail (S' := sX11_goesOn) (by assumption) (mX11_goesOn_452 ..) (fun _ h => h)
    | exact zPr.tail (S' := sX11_goesOn) (by assumption) (mX11_goesOn_613 ..) (fun _ h => h)
    | exact zPr.tail (S' := sX11_goesOn) (by assumption) (mX11_goesOn_596 ..) (fun _ h => h)
    | exact zPr.tail (S' := sX11_goesOn) (by assumption) (mX11_goesOn_546 ..) (fun _ h => h)
    | exact zPr.tail (S' := sX11_goesOn) (by assumption) (mX11_goesOn_531 ..) (fun _ h => h)
    | exact zPr.tail (S' := sX11_goesOn) (by assumption) (mX11_goesOn_422 ..) (fun _ h => h)
    | exact zPr.tail (S' := sX11_goesOn) (by assumption) (mX11_goesOn_400 ..) (fun _ h => h)
    | exact zPr.tail (S' := sX11_goesOn) (by assumption) (mX11_goesOn_372 ..) (fun _ h => h)
    | exact zPr.tail (S' := sX11_goesOn) (by assumption) (mX11_goesOn_356 ..) (fun _ h => h)
    | exact zPr.tail (S' := sX11_goesOn) (by assumption) (mX11_goesOn_327 ..) (fun _ h => h)
    | exact zPr.tail (S' := sX11_goesOn) (by assumption) (mX11_goesOn_309 ..) (fun _ h => h)
theorem mX11_goesOn_264 (x1 : Int32) (s0 : Int32) (σ : zS) : zPr (sX11_goesOn σ.2.2) σ Prod.snd (fX11_goesOn_264 x1 s0 σ) := by
  unfold fX11_goesOn_264
  have hc := zSm.rfl (sX11_goesOn σ.2.2) σ
  repeat' first
    | exact zPr.none
    | exact zPr.some (by assumption)
    | refine zPr.ite ?_ ?_
    | refine zPr.wI (by assumption) (by simp only [sX11_goesOn, List.mem_cons, List.not_mem_nil, or_false]; omega) (fun _ _ => ?_)
    | refine zPr.wL (by assumption) (by simp only [sX11_goesOn, List.mem_cons, List.not_mem_nil, or_false]; omega) (fun _ _ => ?_)
    | refine zPr.bI (by assumption) (by simp only [sX11_goesOn, List.mem_cons, List.not_mem_nil, or_false]; omega) (fun _ _ => ?_)
    | refine zPr.bL (by assumption) (by simp only [sX11_goesOn, List.mem_cons, List.not_mem_nil, or_false]; omega) (fun _ _ => ?_)
    | refine zPr.wC (by assumption) (by simp only [sX11_goesOn, List.mem_cons, List.not_mem_nil, or_false]; omega) (fun _ _ => ?_)
    | refine zPr.aI (fun _ => ?_)
    | refine zPr.aL (fun _ => ?_)
    | refine zPr.gd ?_
    | refine zPr.bw (S' := sX11_add) (by assumption) (mX11_add ..) (fun p hp => by simp only [sX11_add, sX11_goesOn, List.mem_cons, List.not_mem_nil, or_false] at hp ⊢ <;> omega) (fun _ _ => ?_)
    | refine zPr.bw (S' := sX11_ahead) (by assumption) (mX11_ahead ..) (fun p hp => by simp only [sX11_ahead, sX11_goesOn, List.mem_cons, List.not_mem_nil, or_false] at hp ⊢ <;> omega) (fun _ _ => ?_)
    | refine zPr.bw (S' := sX11_blame) (by assumption) (mX11_blame ..) (fun p hp => by simp only [sX11_blame, sX11_goesOn, List.mem_cons, List.not_mem_nil, or_false] at hp ⊢ <;> omega) (fun _ _ => ?_)
    | refine zPr.bw (S' := sX11_holdsBack) (by assumption) (mX11_holdsBack ..) (fun p hp => by simp only [sX11_holdsBack, sX11_goesOn, List.mem_cons, List.not_mem_nil, or_false] at hp ⊢ <;> omega) (fun _ _ => ?_)
    | refine zPr.bw (S' := sX11_joins) (by assumption) (mX11_joins ..) (fun p hp => by simp only [sX11_joins, sX11_goesOn, List.mem_cons, List.not_mem_nil, or_false] at hp ⊢ <;> omega) (fun _ _ => ?_)
    | refine zPr.bw (S' := sX11_lex) (by assumption) (mX11_lex ..) (fun p hp => by simp only [sX11_lex, sX11_goesOn, List.mem_cons, List.not_mem_nil, or_false] at hp ⊢ <;> omega) (fun _ _ => ?_)
    | refine zPr.bnr (fun _ => ?_)
    | refine zPr.bnv (fun _ => ?_)
    | exact zPr.tail (S' := sX11_goesOn) (by assumption) (mX11_goesOn_499 ..) (fun _ h => h)
    | exact zPr.tail (S' := sX11_goesOn) (by assumption) (mX11_goesOn_470 ..) (fun _ h => h)
    | exact zPr.tail (S' := sX11_goesOn) (by assumption) (mX11_goesOn_452 ..) (fun _ h => h)
    | exact zPr.tail (S' := sX11_goesOn) (by assumption) (mX11_goesOn_613 ..) (fun _ h => h)
    | exact zPr.tail (S' := sX11_goesOn) (by assumption) (mX11_goesOn_596 ..) (fun _ h => h)
    | exact zPr.tail (S' := sX11_goesOn) (by assumption) (mX11_goesOn_546 ..) (fun _ h => h)
    | exact zPr.tail (S' := sX11_goesOn) (by assumption) (mX11_goesOn_531 ..) (fun _ h => h)
    | exact zPr.tail (S' := sX11_goesOn) (by assumption) (mX11_goesOn_422 ..) (fun _ h => h)
    | exact zPr.tail (S' := sX11_goesOn) (by assumption) (mX11_goesOn_400 ..) (fun _ h => h)
    | exact zPr.tail (S' := sX11_goesOn) (by assumption) (mX11_goesOn_372 ..) (fun _ h => h)
    | exact zPr.tail (S' := sX11_goesOn) (by assumption) (mX11_goesOn_356 ..) (fun _ h => h)
    | exact zPr.tail (S' := sX11_goesOn) (by assumption) (mX11_goesOn_327 ..) (fun _ h => h)
    | exact zPr.tail (S' := sX11_goesOn) (by assumption) (mX11_goesOn_309 ..) (fun _ h => h)
    | exact zPr.tail (S' := sX11_goesOn) (by assumption) (mX11_goesOn_285 ..) (fun _ h => h)
theorem mX11_goesOn_228 (x1 : Int32) (σ : zS) : zPr (sX11_goesOn σ.2.2) σ Prod.snd (fX11_goesOn_228 x1 σ) := by
  unfold fX11_goesOn_228
  have hc := zSm.rfl (sX11_goesOn σ.2.2) σ
  repeat' first
    | exact zPr.none
    | exact zPr.some (by assumption)
    | refine zPr.ite ?_ ?_
    | refine zPr.wI (by assumption) (by simp only [sX11_goesOn, List.mem_cons, List.not_mem_nil, or_false]; omega) (fun _ _ => ?_)
    | refine zPr.wL (by assumption) (by simp only [sX11_goesOn, List.mem_cons, List.not_mem_nil, or_false]; omega) (fun _ _ => ?_)
    | refine zPr.bI (by assumption) (by simp only [sX11_goesOn, List.mem_cons, List.not_mem_nil, or_false]; omega) (fun _ _ => ?_)
    | refine zPr.bL (by assumption) (by simp only [sX11_goesOn, List.mem_cons, List.not_mem_nil, or_false]; omega) (fun _ _ => ?_)
    | refine zPr.wC (by assumption) (by simp only [sX11_goesOn, List.mem_cons, List.not_mem_nil, or_false]; omega) (fun _ _ => ?_)
    | refine zPr.aI (fun _ => ?_)
    | refine zPr.aL (fun _ => ?_)
    | refine zPr.gd ?_
    | refine zPr.bw (S' := sX11_add) (by assumption) (mX11_add ..) (fun p hp => by simp only [sX11_add, sX11_goesOn, List.mem_cons, List.not_mem_nil, or_false] at hp ⊢ <;> omega) (fun _ _ => ?_)
    | refine zPr.bw (S' := sX11_ahead) (by assumption) (mX11_ahead ..) (fun p hp => by simp only [sX11_ahead, sX11_goesOn, List.mem_cons, List.not_mem_nil, or_false] at hp ⊢ <;> omega) (fun _ _ => ?_)
    | refine zPr.bw (S' := sX11_blame) (by assumption) (mX11_blame ..) (fun p hp => by simp only [sX11_blame, sX11_goesOn, List.mem_cons, List.not_mem_nil, or_false] at hp ⊢ <;> omega) (fun _ _ => ?_)
    | refine zPr.bw (S' := sX11_holdsBack) (by assumption) (mX11_holdsBack ..) (fun p hp => by simp only [sX11_holdsBack, sX11_goesOn, List.mem_cons, List.not_mem_nil, or_false] at hp ⊢ <;> omega) (fun _ _ => ?_)
    | refine zPr.bw (S' := sX11_joins) (by assumption) (mX11_joins ..) (fun p hp => by simp only [sX11_joins, sX11_goesOn, List.mem_cons, List.not_mem_nil, or_false] at hp ⊢ <;> omega) (fun _ _ => ?_)
    | refine zPr.bw (S' := sX11_lex) (by assumption) (mX11_lex ..) (fun p hp => by simp only [sX11_lex, sX11_goesOn, List.mem_cons, List.not_mem_nil, or_false] at hp ⊢ <;> omega) (fun _ _ => ?_)
    | refine zPr.bnr (fun _ => ?_)
    | refine zPr.bnv (fun _ => ?_)
    | exact zPr.tail (S' := sX11_goesOn) (by assumption) (mX11_goesOn_499 ..) (fun _ h => h)
    | exact zPr.tail (S' := sX11_goesOn) (by assumption) (mX11_goesOn_470 ..) (fun _ h => h)
    | exact zPr.tail (S' := sX11_goesOn) (by assumption) (mX11_goesOn_452 ..) (fun _ h => h)
    | exact zPr.tail (S' := sX11_goesOn) (by assumption) (mX11_goesOn_613 ..) (fun _ h => h)
    | exact zPr.tail (S' := sX11_goesOn) (by assumption) (mX11_goesOn_596 ..) (fun _ h => h)
    | exact zPr.tail (S' := sX11_goesOn) (by assumption) (mX11_goesOn_546 ..) (fun _ h => h)
    | exact zPr.tail (S' := sX11_goesOn) (by assumption) (mX11_goesOn_531 ..) (fun _ h => h)
    | exact zPr.tail (S' := sX11_goesOn) (by assumption) (mX11_goesOn_422 ..) (fun _ h => h)
    | exact zPr.tail (S' := sX11_goesOn) (by assumption) (mX11_goesOn_400 ..) (fun _ h => h)
    | exact zPr.tail (S' := sX11_goesOn) (by assumption) (mX11_goesOn_372 ..) (fun _ h => h)
    | exact zPr.tail (S' := sX11_goesOn) (by assumption) (mX11_goesOn_356 ..) (fun _ h => h)
    | exact zPr.tail (S' := sX11_goesOn) (by assumption) (mX11_goesOn_327 ..) (fun _ h => h)
    | exact zPr.tail (S' := sX11_goesOn) (by assumption) (mX11_goesOn_309 ..) (fun _ h => h)
    | exact zPr.tail (S' := sX11_goesOn) (by assumption) (mX11_goesOn_285 ..) (fun _ h => h)
    | exact zPr.tail (S' := sX11_goesOn) (by assumption) (mX11_goesOn_264 ..) (fun _ h => h)
theorem mX11_goesOn_188 (x1 : Int32) (x2 : Int32) (x3 : Int32) (σ : zS) : zPr (sX11_goesOn σ.2.2) σ Prod.snd (fX11_goesOn_188 x1 x2 x3 σ) := by
  unfold fX11_goesOn_188
  have hc := zSm.rfl (sX11_goesOn σ.2.2) σ
  repeat' first
    | exact zPr.none
    | exact zPr.some (by assumption)
    | refine zPr.ite ?_ ?_
    | refine zPr.wI (by assumption) (by simp only [sX11_goesOn, List.mem_cons, List.not_mem_nil, or_false]; omega) (fun _ _ => ?_)
    | refine zPr.wL (by assumption) (by simp only [sX11_goesOn, List.mem_cons, List.not_mem_nil, or_false]; omega) (fun _ _ => ?_)
    | refine zPr.bI (by assumption) (by simp only [sX11_goesOn, List.mem_cons, List.not_mem_nil, or_false]; omega) (fun _ _ => ?_)
    | refine zPr.bL (by assumption) (by simp only [sX11_goesOn, List.mem_cons, List.not_mem_nil, or_false]; omega) (fun _ _ => ?_)
    | refine zPr.wC (by assumption) (by simp only [sX11_goesOn, List.mem_cons, List.not_mem_nil, or_false]; omega) (fun _ _ => ?_)
    | refine zPr.aI (fun _ => ?_)
    | refine zPr.aL (fun _ => ?_)
    | refine zPr.gd ?_
    | refine zPr.bw (S' := sX11_add) (by assumption) (mX11_add ..) (fun p hp => by simp only [sX11_add, sX11_goesOn, List.mem_cons, List.not_mem_nil, or_false] at hp ⊢ <;> omega) (fun _ _ => ?_)
    | refine zPr.bw (S' := sX11_ahead) (by assumption) (mX11_ahead ..) (fun p hp => by simp only [sX11_ahead, sX11_goesOn, List.mem_cons, List.not_mem_nil, or_false] at hp ⊢ <;> omega) (fun _ _ => ?_)
    | refine zPr.bw (S' := sX11_blame) (by assumption) (mX11_blame ..) (fun p hp => by simp only [sX11_blame, sX11_goesOn, List.mem_cons, List.not_mem_nil, or_false] at hp ⊢ <;> omega) (fun _ _ => ?_)
    | refine zPr.bw (S' := sX11_holdsBack) (by assumption) (mX11_holdsBack ..) (fun p hp => by simp only [sX11_holdsBack, sX11_goesOn, List.mem_cons, List.not_mem_nil, or_false] at hp ⊢ <;> omega) (fun _ _ => ?_)
    | refine zPr.bw (S' := sX11_joins) (by assumption) (mX11_joins ..) (fun p hp => by simp only [sX11_joins, sX11_goesOn, List.mem_cons, List.not_mem_nil, or_false] at hp ⊢ <;> omega) (fun _ _ => ?_)
    | refine zPr.bw (S' := sX11_lex) (by assumption) (mX11_lex ..) (fun p hp => by simp only [sX11_lex, sX11_goesOn, List.mem_cons, List.not_mem_nil, or_false] at hp ⊢ <;> omega) (fun _ _ => ?_)
    | refine zPr.bnr (fun _ => ?_)
    | refine zPr.bnv (fun _ => ?_)
    | exact zPr.tail (S' := sX11_goesOn) (by assumption) (mX11_goesOn_499 ..) (fun _ h => h)
    | exact zPr.tail (S' := sX11_goesOn) (by assumption) (mX11_goesOn_470 ..) (fun _ h => h)
    | exact zPr.tail (S' := sX11_goesOn) (by assumption) (mX11_goesOn_452 ..) (fun _ h => h)
    | exact zPr.tail (S' := sX11_goesOn) (by assumption) (mX11_goesOn_613 ..) (fun _ h => h)
    | exact zPr.tail (S' := sX11_goesOn) (by assumption) (mX11_goesOn_596 ..) (fun _ h => h)
    | exact zPr.tail (S' := sX11_goesOn) (by assumption) (mX11_goesOn_546 ..) (fun _ h => h)
    | exact zPr.tail (S' := sX11_goesOn) (by assumption) (mX11_goesOn_531 ..) (fun _ h => h)
    | exact zPr.tail (S' := sX11_goesOn) (by assumption) (mX11_goesOn_422 ..) (fun _ h => h)
    | exact zPr.tail (S' := sX11_goesOn) (by assumption) (mX11_goesOn_400 ..) (fun _ h => h)
    | exact zPr.tail (S' := sX11_goesOn) (by assumption) (mX11_goesOn_372 ..) (fun _ h => h)
    | exact zPr.tail (S' := sX11_goesOn) (by assumption) (mX11_goesOn_356 ..) (fun _ h => h)
    | exact zPr.tail (S' := sX11_goesOn) (by assumption) (mX11_goesOn_327 ..) (fun _ h => h)
    | exact zPr.tail (S' := sX11_goesOn) (by assumption) (mX11_goesOn_309 ..) (fun _ h => h)
    | exact zPr.tail (S' := sX11_goesOn) (by assumption) (mX11_goesOn_285 ..) (fun _ h => h)
    | exact zPr.tail (S' := sX11_goesOn) (by assumption) (mX11_goesOn_264 ..) (fun _ h => h)
    | exact zPr.tail (S' := sX11_goesOn) (by assumption) (mX11_goesOn_228 ..) (fun _ h => h)
theorem mX11_goesOn_174 (s0 : Int32) (σ : zS) : zPr (sX11_goesOn σ.2.2) σ Prod.snd (fX11_goesOn_174 s0 σ) := by
  unfold fX11_goesOn_174
  have hc := zSm.rfl (sX11_goesOn σ.2.2) σ
  repeat' first
    | exact zPr.none
    | exact zPr.some (by assumption)
    | refine zPr.ite ?_ ?_
    | refine zPr.wI (by assumption) (by simp only [sX11_goesOn, List.mem_cons, List.not_mem_nil, or_false]; omega) (fun _ _ => ?_)
    | refine zPr.wL (by assumption) (by simp only [sX11_goesOn, List.mem_cons, List.not_mem_nil, or_false]; omega) (fun _ _ => ?_)
    | refine zPr.bI (by assumption) (by simp only [sX11_goesOn, List.mem_cons, List.not_mem_nil, or_false]; omega) (fun _ _ => ?_)
    | refine zPr.bL (by assumption) (by simp only [sX11_goesOn, List.mem_cons, List.not_mem_nil, or_false]; omega) (fun _ _ => ?_)
    | refine zPr.wC (by assumption) (by simp only [sX11_goesOn, List.mem_cons, List.not_mem_nil, or_false]; omega) (fun _ _ => ?_)
    | refine zPr.aI (fun _ => ?_)
    | refine zPr.aL (fun _ => ?_)
    | refine zPr.gd ?_
    | refine zPr.bw (S' := sX11_add) (by assumption) (mX11_add ..) (fun p hp => by simp only [sX11_add, sX11_goesOn, List.mem_cons, List.not_mem_nil, or_false] at hp ⊢ <;> omega) (fun _ _ => ?_)
    | refine zPr.bw (S' := sX11_ahead) (by assumption) (mX11_ahead ..) (fun p hp => by simp only [sX11_ahead, sX11_goesOn, List.mem_cons, List.not_mem_nil, or_false] at hp ⊢ <;> omega) (fun _ _ => ?_)
    | refine zPr.bw (S' := sX11_blame) (by assumption) (mX11_blame ..) (fun p hp => by simp only [sX11_blame, sX11_goesOn, List.mem_cons, List.not_mem_nil, or_false] at hp ⊢ <;> omega) (fun _ _ => ?_)
    | refine zPr.bw (S' := sX11_holdsBack) (by assumption) (mX11_holdsBack ..) (fun p hp => by simp only [sX11_holdsBack, sX11_goesOn, List.mem_cons, List.not_mem_nil, or_false] at hp ⊢ <;> omega) (fun _ _ => ?_)
    | refine zPr.bw (S' := sX11_joins) (by assumption) (mX11_joins ..) (fun p hp => by simp only [sX11_joins, sX11_goesOn, List.mem_cons, List.not_mem_nil, or_false] at hp ⊢ <;> omega) (fun _ _ => ?_)
    | refine zPr.bw (S' := sX11_lex) (by assumption) (mX11_lex ..) (fun p hp => by simp only [sX11_lex, sX11_goesOn, List.mem_cons, List.not_mem_nil, or_false] at hp ⊢ <;> omega) (fun _ _ => ?_)
    | refine zPr.bnr (fun _ => ?_)
    | refine zPr.bnv (fun _ => ?_)
    | exact zPr.tail (S' := sX11_goesOn) (by assumption) (mX11_goesOn_499 ..) (fun _ h => h)
    | exact zPr.tail (S' := sX11_goesOn) (by assumption) (mX11_goesOn_470 ..) (fun _ h => h)
    | exact zPr.tail (S' := sX11_goesOn) (by assumption) (mX11_goesOn_452 ..) (fun _ h => h)
    | exact zPr.tail (S' := sX11_goesOn) (by assumption) (mX11_goesOn_613 ..) (fun _ h => h)
    | exact zPr.tail (S' := sX11_goesOn) (by assumption) (mX11_goesOn_596 ..) (fun _ h => h)
    | exact zPr.tail (S' := sX11_goesOn) (by assumption) (mX11_goesOn_546 ..) (fun _ h => h)
    | exact zPr.tail (S' := sX11_goesOn) (by assumption) (mX11_goesOn_531 ..) (fun _ h => h)
    | exact zPr.tail (S' := sX11_goesOn) (by assumption) (mX11_goesOn_422 ..) (fun _ h => h)
    | exact zPr.tail (S' := sX11_goesOn) (by assumption) (mX11_goesOn_400 ..) (fun _ h => h)
    | exact zPr.tail (S' := sX11_goesOn) (by assumption) (mX11_goesOn_372 ..) (fun _ h => h)
    | exact zPr.tail (S' := sX11_goesOn) (by assumption) (mX11_goesOn_356 ..) (fun _ h => h)
    | exact zPr.tail (S' := sX11_goesOn) (by assumption) (mX11_goesOn_327 ..) (fun _ h => h)
    | exact zPr.tail (S' := sX11_goesOn) (by assumption) (mX11_goesOn_309 ..) (fun _ h => h)
    | exact zPr.tail (S' := sX11_goesOn) (by assumption) (mX11_goesOn_285 ..) (fun _ h => h)
    | exact zPr.tail (S' := sX11_goesOn) (by assumption) (mX11_goesOn_264 ..) (fun _ h => h)
    | exact zPr.tail (S' := sX11_goesOn) (by assumption) (mX11_goesOn_228 ..) (fun _ h => h)
    | exact zPr.tail (S' := sX11_goesOn) (by assumption) (mX11_goesOn_188 ..) (fun _ h => h)
theorem mX11_goesOn_112 (s0 : Int32) (σ : zS) : zPr (sX11_goesOn σ.2.2) σ Prod.snd (fX11_goesOn_112 s0 σ) := by
  unfold fX11_goesOn_112
  have hc := zSm.rfl (sX11_goesOn σ.2.2) σ
  repeat' first
    | exact zPr.none
    | exact zPr.some (by assumption)
    | refine zPr.ite ?_ ?_
    | refine zPr.wI (by assumption) (by simp only [sX11_goesOn, List.mem_cons, List.not_mem_nil, or_false]; omega) (fun _ _ => ?_)
    | refine zPr.wL (by assumption) (by simp only [sX11_goesOn, List.mem_cons, List.not_mem_nil, or_false]; omega) (fun _ _ => ?_)
    | refine zPr.bI (by assumption) (by simp only [sX11_goesOn, List.mem_cons, List.not_mem_nil, or_false]; omega) (fun _ _ => ?_)
    | refine zPr.bL (by assumption) (by simp only [sX11_goesOn, List.mem_cons, List.not_mem_nil, or_false]; omega) (fun _ _ => ?_)
    | refine zPr.wC (by assumption) (by simp only [sX11_goesOn, List.mem_cons, List.not_mem_nil, or_false]; omega) (fun _ _ => ?_)
    | refine zPr.aI (fun _ => ?_)
    | refine zPr.aL (fun _ => ?_)
    | refine zPr.gd ?_
    | refine zPr.bw (S' := sX11_add) (by assumption) (mX11_add ..) (fun p hp => by simp only [sX11_add, sX11_goesOn, List.mem_cons, List.not_mem_nil, or_false] at hp ⊢ <;> omega) (fun _ _ => ?_)
    | refine zPr.bw (S' := sX11_ahead) (by assumption) (mX11_ahead ..) (fun p hp => by simp only [sX11_ahead, sX11_goesOn, List.mem_cons, List.not_mem_nil, or_false] at hp ⊢ <;> omega) (fun _ _ => ?_)
    | refine zPr.bw (S' := sX11_blame) (by assumption) (mX11_blame ..) (fun p hp => by simp only [sX11_blame, sX11_goesOn, List.mem_cons, List.not_mem_nil, or_false] at hp ⊢ <;> omega) (fun _ _ => ?_)
    | refine zPr.bw (S' := sX11_holdsBack) (by assumption) (mX11_holdsBack ..) (fun p hp => by simp only [sX11_holdsBack, sX11_goesOn, List.mem_cons, List.not_mem_nil, or_false] at hp ⊢ <;> omega) (fun _ _ => ?_)
    | refine zPr.bw (S' := sX11_joins) (by assumption) (mX11_joins ..) (fun p hp => by simp only [sX11_joins, sX11_goesOn, List.mem_cons, List.not_mem_nil, or_false] at hp ⊢ <;> omega) (fun _ _ => ?_)
    | refine zPr.bw (S' := sX11_lex) (by assumption) (mX11_lex ..) (fun p hp => by simp only [sX11_lex, sX11_goesOn, List.mem_cons, List.not_mem_nil, or_false] at hp ⊢ <;> omega) (fun _ _ => ?_)
    | refine zPr.bnr (fun _ => ?_)
    | refine zPr.bnv (fun _ => ?_)
    | exact zPr.tail (S' := sX11_goesOn) (by assumption) (mX11_goesOn_499 ..) (fun _ h => h)
    | exact zPr.tail (S' := sX11_goesOn) (by assumption) (mX11_goesOn_470 ..) (fun _ h => h)
    | exact zPr.tail (S' := sX11_goesOn) (by assumption) (mX11_goesOn_452 ..) (fun _ h => h)
    | exact zPr.tail (S' := sX11_goesOn) (by assumption) (mX11_goesOn_613 ..) (fun _ h => h)
    | exact zPr.tail (S' := sX11_goesOn) (by assumption) (mX11_goesOn_596 ..) (fun _ h => h)
    | exact zPr.tail (S' := sX11_goesOn) (by assumption) (mX11_goesOn_546 ..) (fun _ h => h)
    | exact zPr.tail (S' := sX11_goesOn) (by assumption) (mX11_goesOn_531 ..) (fun _ h => h)
    | exact zPr.tail (S' := sX11_goesOn) (by assumption) (mX11_goesOn_422 ..) (fun _ h => h)
    | exact zPr.tail (S' := sX11_goesOn) (by assumption) (mX11_goesOn_400 ..) (fun _ h => h)
    | exact zPr.tail (S' := sX11_goesOn) (by assumption) (mX11_goesOn_372 ..) (fun _ h => h)
    | exact zPr.tail (S' := sX11_goesOn) (by assumption) (mX11_goesOn_356 ..) (fun _ h => h)
    | exact zPr.tail (S' := sX11_goesOn) (by assumption) (mX11_goesOn_327 ..) (fun _ h => h)
    | exact zPr.tail (S' := sX11_goesOn) (by assumption) (mX11_goesOn_309 ..) (fun _ h => h)
    | exact zPr.tail (S' := sX11_goesOn) (by assumption) (mX11_goesOn_285 ..) (fun _ h => h)
    | exact zPr.tail (S' := sX11_goesOn) (by assumption) (mX11_goesOn_264 ..) (fun _ h => h)
    | exact zPr.tail (S' := sX11_goesOn) (by assumption) (mX11_goesOn_228 ..) (fun _ h => h)
    | exact zPr.tail (S' := sX11_goesOn) (by assumption) (mX11_goesOn_188 ..) (fun _ h => h)
    | exact zPr.tail (S' := sX11_goesOn) (by assumption) (mX11_goesOn_174 ..) (fun _ h => h)
theorem mX11_goesOn_106 (σ : zS) : zPr (sX11_goesOn σ.2.2) σ Prod.snd (fX11_goesOn_106 σ) := by
  unfold fX11_goesOn_106
  have hc := zSm.rfl (sX11_goesOn σ.2.2) σ
  repeat' first
    | exact zPr.none
    | exact zPr.some (by assumption)
    | refine zPr.ite ?_ ?_
    | refine zPr.wI (by assumption) (by simp only [sX11_goesOn, List.mem_cons, List.not_mem_nil, or_false]; omega) (fun _ _ => ?_)
    | refine zPr.wL (by assumption) (by simp only [sX11_goesOn, List.mem_cons, List.not_mem_nil, or_false]; omega) (fun _ _ => ?_)
    | refine zPr.bI (by assumption) (by simp only [sX11_goesOn, List.mem_cons, List.not_mem_nil, or_false]; omega) (fun _ _ => ?_)
    | refine zPr.bL (by assumption) (by simp only [sX11_goesOn, List.mem_cons, List.not_mem_nil, or_false]; omega) (fun _ _ => ?_)
    | refine zPr.wC (by assumption) (by simp only [sX11_goesOn, List.mem_cons, List.not_mem_nil, or_false]; omega) (fun _ _ => ?_)
    | refine zPr.aI (fun _ => ?_)
    | refine zPr.aL (fun _ => ?_)
    | refine zPr.gd ?_
    | refine zPr.bw (S' := sX11_add) (by assumption) (mX11_add ..) (fun p hp => by simp only [sX11_add, sX11_goesOn, List.mem_cons, List.not_mem_nil, or_false] at hp ⊢ <;> omega) (fun _ _ => ?_)
    | refine zPr.bw (S' := sX11_ahead) (by assumption) (mX11_ahead ..) (fun p hp => by simp only [sX11_ahead, sX11_goesOn, List.mem_cons, List.not_mem_nil, or_false] at hp ⊢ <;> omega) (fun _ _ => ?_)
    | refine zPr.bw (S' := sX11_blame) (by assumption) (mX11_blame ..) (fun p hp => by simp only [sX11_blame, sX11_goesOn, List.mem_cons, List.not_mem_nil, or_false] at hp ⊢ <;> omega) (fun _ _ => ?_)
    | refine zPr.bw (S' := sX11_holdsBack) (by assumption) (mX11_holdsBack ..) (fun p hp => by simp only [sX11_holdsBack, sX11_goesOn, List.mem_cons, List.not_mem_nil, or_false] at hp ⊢ <;> omega) (fun _ _ => ?_)
    | refine zPr.bw (S' := sX11_joins) (by assumption) (mX11_joins ..) (fun p hp => by simp only [sX11_joins, sX11_goesOn, List.mem_cons, List.not_mem_nil, or_false] at hp ⊢ <;> omega) (fun _ _ => ?_)
    | refine zPr.bw (S' := sX11_lex) (by assumption) (mX11_lex ..) (fun p hp => by simp only [sX11_lex, sX11_goesOn, List.mem_cons, List.not_mem_nil, or_false] at hp ⊢ <;> omega) (fun _ _ => ?_)
    | refine zPr.bnr (fun _ => ?_)
    | refine zPr.bnv (fun _ => ?_)
    | exact zPr.tail (S' := sX11_goesOn) (by assumption) (mX11_goesOn_499 ..) (fun _ h => h)
    | exact zPr.tail (S' := sX11_goesOn) (by assumption) (mX11_goesOn_470 ..) (fun _ h => h)
    | exact zPr.tail (S' := sX11_goesOn) (by assumption) (mX11_goesOn_452 ..) (fun _ h => h)
    | exact zPr.tail (S' := sX11_goesOn) (by assumption) (mX11_goesOn_613 ..) (fun _ h => h)
    | exact zPr.tail (S' := sX11_goesOn) (by assumption) (mX11_goesOn_596 ..) (fun _ h => h)
    | exact zPr.tail (S' := sX11_goesOn) (by assumption) (mX11_goesOn_546 ..) (fun _ h => h)
    | exact zPr.tail (S' := sX11_goesOn) (by assumption) (mX11_goesOn_531 ..) (fun _ h => h)
    | exact zPr.tail (S' := sX11_goesOn) (by assumption) (mX11_goesOn_422 ..) (fun _ h => h)
    | exact zPr.tail (S' := sX11_goesOn) (by assumption) (mX11_goesOn_400 ..) (fun _ h => h)
    | exact zPr.tail (S' := sX11_goesOn) (by assumption) (mX11_goesOn_372 ..) (fun _ h => h)
    | exact zPr.tail (S' := sX11_goesOn) (by assumption) (mX11_goesOn_356 ..) (fun _ h => h)
    | exact zPr.tail (S' := sX11_goesOn) (by assumption) (mX11_goesOn_327 ..) (fun _ h => h)
    | exact zPr.tail (S' := sX11_goesOn) (by assumption) (mX11_goesOn_309 ..) (fun _ h => h)
    | exact zPr.tail (S' := sX11_goesOn) (by assumption) (mX11_goesOn_285 ..) (fun _ h => h)
    | exact zPr.tail (S' := sX11_goesOn) (by assumption) (mX11_goesOn_264 ..) (fun _ h => h)
    | exact zPr.tail (S' := sX11_goesOn) (by assumption) (mX11_goesOn_228 ..) (fun _ h => h)
    | exact zPr.tail (S' := sX11_goesOn) (by assumption) (mX11_goesOn_188 ..) (fun _ h => h)
    | exact zPr.tail (S' := sX11_goesOn) (by assumption) (mX11_goesOn_174 ..) (fun _ h => h)
    | exact zPr.tail (S' := sX11_goesOn) (by assumption) (mX11_goesOn_112 ..) (fun _ h => h)
theorem mX11_goesOn_87 (σ : zS) : zPr (sX11_goesOn σ.2.2) σ Prod.snd (fX11_goesOn_87 σ) := by
  unfold fX11_goesOn_87
  have hc := zSm.rfl (sX11_goesOn σ.2.2) σ
  repeat' first
    | exact zPr.none
    | exact zPr.some (by assumption)
    | refine zPr.ite ?_ ?_
    | refine zPr.wI (by assumption) (by simp only [sX11_goesOn, List.mem_cons, List.not_mem_nil, or_false]; omega) (fun _ _ => ?_)
    | refine zPr.wL (by assumption) (by simp only [sX11_goesOn, List.mem_cons, List.not_mem_nil, or_false]; omega) (fun _ _ => ?_)
    | refine zPr.bI (by assumption) (by simp only [sX11_goesOn, List.mem_cons, List.not_mem_nil, or_false]; omega) (fun _ _ => ?_)
    | refine zPr.bL (by assumption) (by simp only [sX11_goesOn, List.mem_cons, List.not_mem_nil, or_false]; omega) (fun _ _ => ?_)
    | refine zPr.wC (by assumption) (by simp only [sX11_goesOn, List.mem_cons, List.not_mem_nil, or_false]; omega) (fun _ _ => ?_)
    | refine zPr.aI (fun _ => ?_)
    | refine zPr.aL (fun _ => ?_)
    | refine zPr.gd ?_
    | refine zPr.bw (S' := sX11_add) (by assumption) (mX11_add ..) (fun p hp => by simp only [sX11_add, sX11_goesOn, List.mem_cons, List.not_mem_nil, or_false] at hp ⊢ <;> omega) (fun _ _ => ?_)
    | refine zPr.bw (S' := sX11_ahead) (by assumption) (mX11_ahead ..) (fun p hp => by simp only [sX11_ahead, sX11_goesOn, List.mem_cons, List.not_mem_nil, or_false] at hp ⊢ <;> omega) (fun _ _ => ?_)
    | refine zPr.bw (S' := sX11_blame) (by assumption) (mX11_blame ..) (fun p hp => by simp only [sX11_blame, sX11_goesOn, List.mem_cons, List.not_mem_nil, or_false] at hp ⊢ <;> omega) (fun _ _ => ?_)
    | refine zPr.bw (S' := sX11_holdsBack) (by assumption) (mX11_holdsBack ..) (fun p hp => by simp only [sX11_holdsBack, sX11_goesOn, List.mem_cons, List.not_mem_nil, or_false] at hp ⊢ <;> omega) (fun _ _ => ?_)
    | refine zPr.bw (S' := sX11_joins) (by assumption) (mX11_joins ..) (fun p hp => by simp only [sX11_joins, sX11_goesOn, List.mem_cons, List.not_mem_nil, or_false] at hp ⊢ <;> omega) (fun _ _ => ?_)
    | refine zPr.bw (S' := sX11_lex) (by assumption) (mX11_lex ..) (fun p hp => by simp only [sX11_lex, sX11_goesOn, List.mem_cons, List.not_mem_nil, or_false] at hp ⊢ <;> omega) (fun _ _ => ?_)
    | refine zPr.bnr (fun _ => ?_)
    | refine zPr.bnv (fun _ => ?_)
    | exact zPr.tail (S' := sX11_goesOn) (by assumption) (mX11_goesOn_499 ..) (fun _ h => h)
    | exact zPr.tail (S' := sX11_goesOn) (by assumption) (mX11_goesOn_470 ..) (fun _ h => h)
    | exact zPr.tail (S' := sX11_goesOn) (by assumption) (mX11_goesOn_452 ..) (fun _ h => h)
    | exact zPr.tail (S' := sX11_goesOn) (by assumption) (mX11_goesOn_613 ..) (fun _ h => h)
    | exact zPr.tail (S' := sX11_goesOn) (by assumption) (mX11_goesOn_596 ..) (fun _ h => h)
    | exact zPr.tail (S' := sX11_goesOn) (by assumption) (mX11_goesOn_546 ..) (fun _ h => h)
    | exact zPr.tail (S' := sX11_goesOn) (by assumption) (mX11_goesOn_531 ..) (fun _ h => h)
    | exact zPr.tail (S' := sX11_goesOn) (by assumption) (mX11_goesOn_422 ..) (fun _ h => h)
    | exact zPr.tail (S' := sX11_goesOn) (by assumption) (mX11_goesOn_400 ..) (fun _ h => h)
    | exact zPr.tail (S' := sX11_goesOn) (by assumption) (mX11_goesOn_372 ..) (fun _ h => h)
    | exact zPr.tail (S' := sX11_goesOn) (by assumption) (mX11_goesOn_356 ..) (fun _ h => h)
    | exact zPr.tail (S' := sX11_goesOn) (by assumption) (mX11_goesOn_327 ..) (fun _ h => h)
    | exact zPr.tail (S' := sX11_goesOn) (by assumption) (mX11_goesOn_309 ..) (fun _ h => h)
    | exact zPr.tail (S' := sX11_goesOn) (by assumption) (mX11_goesOn_285 ..) (fun _ h => h)
    | exact zPr.tail (S' := sX11_goesOn) (by assumption) (mX11_goesOn_264 ..) (fun _ h => h)
    | exact zPr.tail (S' := sX11_goesOn) (by assumption) (mX11_goesOn_228 ..) (fun _ h => h)
    | exact zPr.tail (S' := sX11_goesOn) (by assumption) (mX11_goesOn_188 ..) (fun _ h => h)
    | exact zPr.tail (S' := sX11_goesOn) (by assumption) (mX11_goesOn_174 ..) (fun _ h => h)
    | exact zPr.tail (S' := sX11_goesOn) (by assumption) (mX11_goesOn_112 ..) (fun _ h => h)
    | exact zPr.tail (S' := sX11_goesOn) (by assumption) (mX11_goesOn_106 ..) (fun _ h => h)
theorem mX11_goesOn (σ : zS) : zPr (sX11_goesOn σ.2.2) σ Prod.snd (fX11_goesOn σ) := by
  unfold fX11_goesOn
  have hc := zSm.rfl (sX11_goesOn σ.2.2) σ
  repeat' first
    | exact zPr.none
    | exact zPr.some (by assumption)
    | refine zPr.ite ?_ ?_
    | refine zPr.wI (by assumption) (by simp only [sX11_goesOn, List.mem_cons, List.not_mem_nil, or_false]; omega) (fun _ _ => ?_)
    | refine zPr.wL (by assumption) (by simp only [sX11_goesOn, List.mem_cons, List.not_mem_nil, or_false]; omega) (fun _ _ => ?_)
    | refine zPr.bI (by assumption) (by simp only [sX11_goesOn, List.mem_cons, List.not_mem_nil, or_false]; omega) (fun _ _ => ?_)
    | refine zPr.bL (by assumption) (by simp only [sX11_goesOn, List.mem_cons, List.not_mem_nil, or_false]; omega) (fun _ _ => ?_)
    | refine zPr.wC (by assumption) (by simp only [sX11_goesOn, List.mem_cons, List.not_mem_nil, or_false]; omega) (fun _ _ => ?_)
    | refine zPr.aI (fun _ => ?_)
    | refine zPr.aL (fun _ => ?_)
    | refine zPr.gd ?_
    | refine zPr.bw (S' := sX11_add) (by assumption) (mX11_add ..) (fun p hp => by simp only [sX11_add, sX11_goesOn, List.mem_cons, List.not_mem_nil, or_false] at hp ⊢ <;> omega) (fun _ _ => ?_)
    | refine zPr.bw (S' := sX11_ahead) (by assumption) (mX11_ahead ..) (fun p hp => by simp only [sX11_ahead, sX11_goesOn, List.mem_cons, List.not_mem_nil, or_false] at hp ⊢ <;> omega) (fun _ _ => ?_)
    | refine zPr.bw (S' := sX11_blame) (by assumption) (mX11_blame ..) (fun p hp => by simp only [sX11_blame, sX11_goesOn, List.mem_cons, List.not_mem_nil, or_false] at hp ⊢ <;> omega) (fun _ _ => ?_)
    | refine zPr.bw (S' := sX11_holdsBack) (by assumption) (mX11_holdsBack ..) (fun p hp => by simp only [sX11_holdsBack, sX11_goesOn, List.mem_cons, List.not_mem_nil, or_false] at hp ⊢ <;> omega) (fun _ _ => ?_)
    | refine zPr.bw (S' := sX11_joins) (by assumption) (mX11_joins ..) (fun p hp => by simp only [sX11_joins, sX11_goesOn, List.mem_cons, List.not_mem_nil, or_false] at hp ⊢ <;> omega) (fun _ _ => ?_)
    | refine zPr.bw (S' := sX11_lex) (by assumption) (mX11_lex ..) (fun p hp => by simp only [sX11_lex, sX11_goesOn, List.mem_cons, List.not_mem_nil, or_false] at hp ⊢ <;> omega) (fun _ _ => ?_)
    | refine zPr.bnr (fun _ => ?_)
    | refine zPr.bnv (fun _ => ?_)
    | exact zPr.tail (S' := sX11_goesOn) (by assumption) (mX11_goesOn_499 ..) (fun _ h => h)
    | exact zPr.tail (S' := sX11_goesOn) (by assumption) (mX11_goesOn_470 ..) (fun _ h => h)
    | exact zPr.tail (S' := sX11_goesOn) (by assumption) (mX11_goesOn_452 ..) (fun _ h => h)
    | exact zPr.tail (S' := sX11_goesOn) (by assumption) (mX11_goesOn_613 ..) (fun _ h => h)
    | exact zPr.tail (S' := sX11_goesOn) (by assumption) (mX11_goesOn_596 ..) (fun _ h => h)
    | exact zPr.tail (S' := sX11_goesOn) (by assumption) (mX11_goesOn_546 ..) (fun _ h => h)
    | exact zPr.tail (S' := sX11_goesOn) (by assumption) (mX11_goesOn_531 ..) (fun _ h => h)
    | exact zPr.tail (S' := sX11_goesOn) (by assumption) (mX11_goesOn_422 ..) (fun _ h => h)
    | exact zPr.tail (S' := sX11_goesOn) (by assumption) (mX11_goesOn_400 ..) (fun _ h => h)
    | exact zPr.tail (S' := sX11_goesOn) (by assumption) (mX11_goesOn_372 ..) (fun _ h => h)
    | exact zPr.tail (S' := sX11_goesOn) (by assumption) (mX11_goesOn_356 ..) (fun _ h => h)
    | exact zPr.tail (S' := sX11_goesOn) (by assumption) (mX11_goesOn_327 ..) (fun _ h => h)
    | exact zPr.tail (S' := sX11_goesOn) (by assumption) (mX11_goesOn_309 ..) (fun _ h => h)
    | exact zPr.tail (S' := sX11_goesOn) (by assumption) (mX11_goesOn_285 ..) (fun _ h => h)
    | exact zPr.tail (S' := sX11_goesOn) (by assumption) (mX11_goesOn_264 ..) (fun _ h => h)
    | exact zPr.tail (S' := sX11_goesOn) (by assumption) (mX11_goesOn_228 ..) (fun _ h => h)
    | exact zPr.tail (S' := sX11_goesOn) (by assumption) (mX11_goesOn_188 ..) (fun _ h => h)
    | exact zPr.tail (S' := sX11_goesOn) (by assumption) (mX11_goesOn_174 ..) (fun _ h => h)
    | exact zPr.tail (S' := sX11_goesOn) (by assumption) (mX11_goesOn_112 ..) (fun _ h => h)
    | exact zPr.tail (S' := sX11_goesOn) (by assumption) (mX11_goesOn_106 ..) (fun _ h => h)
    | exact zPr.tail (S' := sX11_goesOn) (by assumption) (mX11_goesOn_87 ..) (fun _ h => h)
def sX11_reads (t : Bool × Bool × Bool) : List Nat := [56, 74, 75, 78, 79, 80, 81, 82, 83]
theorem mX11_reads_86 (r43 : Int32 → zS → Option zS) (hr43 : ∀ (x0 : Int32) (σ : zS), zPr (sX11_reads σ.2.2) σ id (r43 x0 σ)) (s0 : Int32) (σ : zS) : zPr (sX11_reads σ.2.2) σ id (fX11_reads_86 r43 s0 σ) := by
  unfold fX11_reads_86
  have hc := zSm.rfl (sX11_reads σ.2.2) σ
  repeat' first
    | exact zPr.none
    | exact zPr.some (by assumption)
    | refine zPr.ite ?_ ?_
    | refine zPr.wI (by assumption) (by simp only [sX11_reads, List.mem_cons, List.not_mem_nil, or_false]; omega) (fun _ _ => ?_)
    | refine zPr.wL (by assumption) (by simp only [sX11_reads, List.mem_cons, List.not_mem_nil, or_false]; omega) (fun _ _ => ?_)
    | refine zPr.bI (by assumption) (by simp only [sX11_reads, List.mem_cons, List.not_mem_nil, or_false]; omega) (fun _ _ => ?_)
    | refine zPr.bL (by assumption) (by simp only [sX11_reads, List.mem_cons, List.not_mem_nil, or_false]; omega) (fun _ _ => ?_)
    | refine zPr.wC (by assumption) (by simp only [sX11_reads, List.mem_cons, List.not_mem_nil, or_false]; omega) (fun _ _ => ?_)
    | refine zPr.aI (fun _ => ?_)
    | refine zPr.aL (fun _ => ?_)
    | refine zPr.gd ?_
    | refine zPr.bc (S' := sX11_goesOn) (by assumption) (mX11_goesOn ..) (fun p hp => by simp only [sX11_goesOn, sX11_reads, List.mem_cons, List.not_mem_nil, or_false] at hp ⊢ <;> omega) (fun _ _ _ => ?_)
    | refine zPr.bc (S' := sX11_operand) (by assumption) (mX11_operand ..) (fun p hp => by simp only [sX11_operand, sX11_reads, List.mem_cons, List.not_mem_nil, or_false] at hp ⊢ <;> omega) (fun _ _ _ => ?_)
    | refine zPr.bw (S' := sX11_pushes) (by assumption) (mX11_pushes ..) (fun p hp => by simp only [sX11_pushes, sX11_reads, List.mem_cons, List.not_mem_nil, or_false] at hp ⊢ <;> omega) (fun _ _ => ?_)
    | refine zPr.bnr (fun _ => ?_)
    | refine zPr.bnv (fun _ => ?_)
    | exact zPr.tail (S' := sX11_reads) (by assumption) (hr43 ..) (fun _ h => h)
theorem mX11_reads_85 (r43 : Int32 → zS → Option zS) (hr43 : ∀ (x0 : Int32) (σ : zS), zPr (sX11_reads σ.2.2) σ id (r43 x0 σ)) (σ : zS) : zPr (sX11_reads σ.2.2) σ id (fX11_reads_85 r43 σ) := by
  unfold fX11_reads_85
  have hc := zSm.rfl (sX11_reads σ.2.2) σ
  repeat' first
    | exact zPr.none
    | exact zPr.some (by assumption)
    | refine zPr.ite ?_ ?_
    | refine zPr.wI (by assumption) (by simp only [sX11_reads, List.mem_cons, List.not_mem_nil, or_false]; omega) (fun _ _ => ?_)
    | refine zPr.wL (by assumption) (by simp only [sX11_reads, List.mem_cons, List.not_mem_nil, or_false]; omega) (fun _ _ => ?_)
    | refine zPr.bI (by assumption) (by simp only [sX11_reads, List.mem_cons, List.not_mem_nil, or_false]; omega) (fun _ _ => ?_)
    | refine zPr.bL (by assumption) (by simp only [sX11_reads, List.mem_cons, List.not_mem_nil, or_false]; omega) (fun _ _ => ?_)
    | refine zPr.wC (by assumption) (by simp only [sX11_reads, List.mem_cons, List.not_mem_nil, or_false]; omega) (fun _ _ => ?_)
    | refine zPr.aI (fun _ => ?_)
    | refine zPr.aL (fun _ => ?_)
    | refine zPr.gd ?_
    | refine zPr.bc (S' := sX11_goesOn) (by assumption) (mX11_goesOn ..) (fun p hp => by simp only [sX11_goesOn, sX11_reads, List.mem_cons, List.not_mem_nil, or_false] at hp ⊢ <;> omega) (fun _ _ _ => ?_)
    | refine zPr.bc (S' := sX11_operand) (by assumption) (mX11_operand ..) (fun p hp => by simp only [sX11_operand, sX11_reads, List.mem_cons, List.not_mem_nil, or_false] at hp ⊢ <;> omega) (fun _ _ _ => ?_)
    | refine zPr.bw (S' := sX11_pushes) (by assumption) (mX11_pushes ..) (fun p hp => by simp only [sX11_pushes, sX11_reads, List.mem_cons, List.not_mem_nil, or_false] at hp ⊢ <;> omega) (fun _ _ => ?_)
    | refine zPr.bnr (fun _ => ?_)
    | refine zPr.bnv (fun _ => ?_)
    | exact zPr.tail (S' := sX11_reads) (by assumption) (hr43 ..) (fun _ h => h)
    | exact zPr.tail (S' := sX11_reads) (by assumption) (mX11_reads_86 _ (by first | assumption | exact ih | (intros; apply ih) | (intros; apply mX11_reads_43)) ..) (fun _ h => h)
theorem mX11_reads_70 (r43 : Int32 → zS → Option zS) (hr43 : ∀ (x0 : Int32) (σ : zS), zPr (sX11_reads σ.2.2) σ id (r43 x0 σ)) (x2 : Int32) (σ : zS) : zPr (sX11_reads σ.2.2) σ id (fX11_reads_70 r43 x2 σ) := by
  unfold fX11_reads_70
  have hc := zSm.rfl (sX11_reads σ.2.2) σ
  repeat' first
    | exact zPr.none
    | exact zPr.some (by assumption)
    | refine zPr.ite ?_ ?_
    | refine zPr.wI (by assumption) (by simp only [sX11_reads, List.mem_cons, List.not_mem_nil, or_false]; omega) (fun _ _ => ?_)
    | refine zPr.wL (by assumption) (by simp only [sX11_reads, List.mem_cons, List.not_mem_nil, or_false]; omega) (fun _ _ => ?_)
    | refine zPr.bI (by assumption) (by simp only [sX11_reads, List.mem_cons, List.not_mem_nil, or_false]; omega) (fun _ _ => ?_)
    | refine zPr.bL (by assumption) (by simp only [sX11_reads, List.mem_cons, List.not_mem_nil, or_false]; omega) (fun _ _ => ?_)
    | refine zPr.wC (by assumption) (by simp only [sX11_reads, List.mem_cons, List.not_mem_nil, or_false]; omega) (fun _ _ => ?_)
    | refine zPr.aI (fun _ => ?_)
    | refine zPr.aL (fun _ => ?_)
    | refine zPr.gd ?_
    | refine zPr.bc (S' := sX11_goesOn) (by assumption) (mX11_goesOn ..) (fun p hp => by simp only [sX11_goesOn, sX11_reads, List.mem_cons, List.not_mem_nil, or_false] at hp ⊢ <;> omega) (fun _ _ _ => ?_)
    | refine zPr.bc (S' := sX11_operand) (by assumption) (mX11_operand ..) (fun p hp => by simp only [sX11_operand, sX11_reads, List.mem_cons, List.not_mem_nil, or_false] at hp ⊢ <;> omega) (fun _ _ _ => ?_)
    | refine zPr.bw (S' := sX11_pushes) (by assumption) (mX11_pushes ..) (fun p hp => by simp only [sX11_pushes, sX11_reads, List.mem_cons, List.not_mem_nil, or_false] at hp ⊢ <;> omega) (fun _ _ => ?_)
    | refine zPr.bnr (fun _ => ?_)
    | refine zPr.bnv (fun _ => ?_)
    | exact zPr.tail (S' := sX11_reads) (by assumption) (hr43 ..) (fun _ h => h)
    | exact zPr.tail (S' := sX11_reads) (by assumption) (mX11_reads_86 _ (by first | assumption | exact ih | (intros; apply ih) | (intros; apply mX11_reads_43)) ..) (fun _ h => h)
    | exact zPr.tail (S' := sX11_reads) (by assumption) (mX11_reads_85 _ (by first | assumption | exact ih | (intros; apply ih) | (intros; apply mX11_reads_43)) ..) (fun _ h => h)
theorem mX11_reads_43 : ∀ (fuel : Nat) (x2 : Int32) (σ : zS), zPr (sX11_reads σ.2.2) σ id (fX11_reads_43 fuel x2 σ) := by
  intro fuel
  induction fuel with
  | zero => intro x2 σ; exact zPr.none
  | succ f ih =>
    intro x2 σ
    rw [fX11_reads_43]
    have hc := zSm.rfl (sX11_reads σ.2.2) σ
    repeat' first
      | exact zPr.none
      | exact zPr.some (by assumption)
      | refine zPr.ite ?_ ?_
      | refine zPr.wI (by assumption) (by simp only [sX11_reads, List.mem_cons, List.not_mem_nil, or_false]; omega) (fun _ _ => ?_)
      | refine zPr.wL (by assumption) (by simp only [sX11_reads, List.mem_cons, List.not_mem_nil, or_false]; omega) (fun _ _ => ?_)
      | refine zPr.bI (by assumption) (by simp only [sX11_reads, List.mem_cons, List.not_mem_nil, or_false]; omega) (fun _ _ => ?_)
      | refine zPr.bL (by assumption) (by simp only [sX11_reads, List.mem_cons, List.not_mem_nil, or_false]; omega) (fun _ _ => ?_)
      | refine zPr.wC (by assumption) (by simp only [sX11_reads, List.mem_cons, List.not_mem_nil, or_false]; omega) (fun _ _ => ?_)
      | refine zPr.aI (fun _ => ?_)
      | refine zPr.aL (fun _ => ?_)
      | refine zPr.gd ?_
      | refine zPr.bc (S' := sX11_goesOn) (by assumption) (mX11_goesOn ..) (fun p hp => by simp only [sX11_goesOn, sX11_reads, List.mem_cons, List.not_mem_nil, or_false] at hp ⊢ <;> omega) (fun _ _ _ => ?_)
      | refine zPr.bc (S' := sX11_operand) (by assumption) (mX11_operand ..) (fun p hp => by simp only [sX11_operand, sX11_reads, List.mem_cons, List.not_mem_nil, or_false] at hp ⊢ <;> omega) (fun _ _ _ => ?_)
      | refine zPr.bw (S' := sX11_pushes) (by assumption) (mX11_pushes ..) (fun p hp => by simp only [sX11_pushes, sX11_reads, List.mem_cons, List.not_mem_nil, or_false] at hp ⊢ <;> omega) (fun _ _ => ?_)
      | refine zPr.bnr (fun _ => ?_)
      | refine zPr.bnv (fun _ => ?_)
      | exact zPr.tail (S' := sX11_reads) (by assumption) (ih ..) (fun _ h => h)
      | exact zPr.tail (S' := sX11_reads) (by assumption) (mX11_reads_86 _ (by first | assumption | exact ih | (intros; apply ih) | (intros; apply mX11_reads_43)) ..) (fun _ h => h)
      | exact zPr.tail (S' := sX11_reads) (by assumption) (mX11_reads_85 _ (by first | assumption | exact ih | (intros; apply ih) | (intros; apply mX11_reads_43)) ..) (fun _ h => h)
      | exact zPr.tail (S' := sX11_reads) (by assumption) (mX11_reads_70 _ (by first | assumption | exact ih | (intros; apply ih) | (intros; apply mX11_reads_43)) ..) (fun _ h => h)
theorem mX11_reads_38 (s0 : Int32) (σ : zS) : zPr (sX11_reads σ.2.2) σ id (fX11_reads_38 s0 σ) := by
  unfold fX11_reads_38
  have hc := zSm.rfl (sX11_reads σ.2.2) σ
  repeat' first
    | exact zPr.none
    | exact zPr.some (by assumption)
    | refine zPr.ite ?_ ?_
    | refine zPr.wI (by assumption) (by simp only [sX11_reads, List.mem_cons, List.not_mem_nil, or_false]; omega) (fun _ _ => ?_)
    | refine zPr.wL (by assumption) (by simp only [sX11_reads, List.mem_cons, List.not_mem_nil, or_false]; omega) (fun _ _ => ?_)
    | refine zPr.bI (by assumption) (by simp only [sX11_reads, List.mem_cons, List.not_mem_nil, or_false]; omega) (fun _ _ => ?_)
    | refine zPr.bL (by assumption) (by simp only [sX11_reads, List.mem_cons, List.not_mem_nil, or_false]; omega) (fun _ _ => ?_)
    | refine zPr.wC (by assumption) (by simp only [sX11_reads, List.mem_cons, List.not_mem_nil, or_false]; omega) (fun _ _ => ?_)
    | refine zPr.aI (fun _ => ?_)
    | refine zPr.aL (fun _ => ?_)
    | refine zPr.gd ?_
    | refine zPr.bc (S' := sX11_goesOn) (by assumption) (mX11_goesOn ..) (fun p hp => by simp only [sX11_goesOn, sX11_reads, List.mem_cons, List.not_mem_nil, or_false] at hp ⊢ <;> omega) (fun _ _ _ => ?_)
    | refine zPr.bc (S' := sX11_operand) (by assumption) (mX11_operand ..) (fun p hp => by simp only [sX11_operand, sX11_reads, List.mem_cons, List.not_mem_nil, or_false] at hp ⊢ <;> omega) (fun _ _ _ => ?_)
    | refine zPr.bw (S' := sX11_pushes) (by assumption) (mX11_pushes ..) (fun p hp => by simp only [sX11_pushes, sX11_reads, List.mem_cons, List.not_mem_nil, or_false] at hp ⊢ <;> omega) (fun _ _ => ?_)
    | refine zPr.bnr (fun _ => ?_)
    | refine zPr.bnv (fun _ => ?_)
    | exact zPr.tail (S' := sX11_reads) (by assumption) (mX11_reads_86 _ (by first | assumption | exact ih | (intros; apply ih) | (intros; apply mX11_reads_43)) ..) (fun _ h => h)
    | exact zPr.tail (S' := sX11_reads) (by assumption) (mX11_reads_85 _ (by first | assumption | exact ih | (intros; apply ih) | (intros; apply mX11_reads_43)) ..) (fun _ h => h)
    | exact zPr.tail (S' := sX11_reads) (by assumption) (mX11_reads_70 _ (by first | assumption | exact ih | (intros; apply ih) | (intros; apply mX11_reads_43)) ..) (fun _ h => h)
    | exact zPr.tail (S' := sX11_reads) (by assumption) (mX11_reads_43 ..) (fun _ h => h)
theorem mX11_reads (p1 : Int32) (σ : zS) : zPr (sX11_reads σ.2.2) σ id (fX11_reads p1 σ) := by
  unfold fX11_reads
  have hc := zSm.rfl (sX11_reads σ.2.2) σ
  repeat' first
    | exact zPr.none
    | exact zPr.some (by assumption)
    | refine zPr.ite ?_ ?_
    | refine zPr.wI (by assumption) (by simp only [sX11_reads, List.mem_cons, List.not_mem_nil, or_false]; omega) (fun _ _ => ?_)
    | refine zPr.wL (by assumption) (by simp only [sX11_reads, List.mem_cons, List.not_mem_nil, or_false]; omega) (fun _ _ => ?_)
    | refine zPr.bI (by assumption) (by simp only [sX11_reads, List.mem_cons, List.not_mem_nil, or_false]; omega) (fun _ _ => ?_)
    | refine zPr.bL (by assumption) (by simp only [sX11_reads, List.mem_cons, List.not_mem_nil, or_false]; omega) (fun _ _ => ?_)
    | refine zPr.wC (by assumption) (by simp only [sX11_reads, List.mem_cons, List.not_mem_nil, or_false]; omega) (fun _ _ => ?_)
    | refine zPr.aI (fun _ => ?_)
    | refine zPr.aL (fun _ => ?_)
    | refine zPr.gd ?_
    | refine zPr.bc (S' := sX11_goesOn) (by assumption) (mX11_goesOn ..) (fun p hp => by simp only [sX11_goesOn, sX11_reads, List.mem_cons, List.not_mem_nil, or_false] at hp ⊢ <;> omega) (fun _ _ _ => ?_)
    | refine zPr.bc (S' := sX11_operand) (by assumption) (mX11_operand ..) (fun p hp => by simp only [sX11_operand, sX11_reads, List.mem_cons, List.not_mem_nil, or_false] at hp ⊢ <;> omega) (fun _ _ _ => ?_)
    | refine zPr.bw (S' := sX11_pushes) (by assumption) (mX11_pushes ..) (fun p hp => by simp only [sX11_pushes, sX11_reads, List.mem_cons, List.not_mem_nil, or_false] at hp ⊢ <;> omega) (fun _ _ => ?_)
    | refine zPr.bnr (fun _ => ?_)
    | refine zPr.bnv (fun _ => ?_)
    | exact zPr.tail (S' := sX11_reads) (by assumption) (mX11_reads_86 _ (by first | assumption | exact ih | (intros; apply ih) | (intros; apply mX11_reads_43)) ..) (fun _ h => h)
    | exact zPr.tail (S' := sX11_reads) (by assumption) (mX11_reads_85 _ (by first | assumption | exact ih | (intros; apply ih) | (intros; apply mX11_reads_43)) ..) (fun _ h => h)
    | exact zPr.tail (S' := sX11_reads) (by assumption) (mX11_reads_70 _ (by first | assumption | exact ih | (intros; apply ih) | (intros; apply mX11_reads_43)) ..) (fun _ h => h)
    | exact zPr.tail (S' := sX11_reads) (by assumption) (mX11_reads_43 ..) (fun _ h => h)
    | exact zPr.tail (S' := sX11_reads) (by assumption) (mX11_reads_38 ..) (fun _ h => h)
def sX11_counts (t : Bool × Bool × Bool) : List Nat := [56]
theorem mX11_counts_32 (σ : zS) : zPr (sX11_counts σ.2.2) σ Prod.snd (fX11_counts_32 σ) := by
  unfold fX11_counts_32
  have hc := zSm.rfl (sX11_counts σ.2.2) σ
  repeat' first
    | exact zPr.none
    | exact zPr.some (by assumption)
    | refine zPr.ite ?_ ?_
    | refine zPr.wI (by assumption) (by simp only [sX11_counts, List.mem_cons, List.not_mem_nil, or_false]; omega) (fun _ _ => ?_)
    | refine zPr.wL (by assumption) (by simp only [sX11_counts, List.mem_cons, List.not_mem_nil, or_false]; omega) (fun _ _ => ?_)
    | refine zPr.bI (by assumption) (by simp only [sX11_counts, List.mem_cons, List.not_mem_nil, or_false]; omega) (fun _ _ => ?_)
    | refine zPr.bL (by assumption) (by simp only [sX11_counts, List.mem_cons, List.not_mem_nil, or_false]; omega) (fun _ _ => ?_)
    | refine zPr.wC (by assumption) (by simp only [sX11_counts, List.mem_cons, List.not_mem_nil, or_false]; omega) (fun _ _ => ?_)
    | refine zPr.aI (fun _ => ?_)
    | refine zPr.aL (fun _ => ?_)
    | refine zPr.gd ?_
    | refine zPr.bw (S' := sX11_ahead) (by assumption) (mX11_ahead ..) (fun p hp => by simp only [sX11_ahead, sX11_counts, List.mem_cons, List.not_mem_nil, or_false] at hp ⊢ <;> omega) (fun _ _ => ?_)
    | refine zPr.bw (S' := sX11_blame) (by assumption) (mX11_blame ..) (fun p hp => by simp only [sX11_blame, sX11_counts, List.mem_cons, List.not_mem_nil, or_false] at hp ⊢ <;> omega) (fun _ _ => ?_)
    | refine zPr.bnr (fun _ => ?_)
    | refine zPr.bnv (fun _ => ?_)
theorem mX11_counts_21 (σ : zS) : zPr (sX11_counts σ.2.2) σ Prod.snd (fX11_counts_21 σ) := by
  unfold fX11_counts_21
  have hc := zSm.rfl (sX11_counts σ.2.2) σ
  repeat' first
    | exact zPr.none
    | exact zPr.some (by assumption)
    | refine zPr.ite ?_ ?_
    | refine zPr.wI (by assumption) (by simp only [sX11_counts, List.mem_cons, List.not_mem_nil, or_false]; omega) (fun _ _ => ?_)
    | refine zPr.wL (by assumption) (by simp only [sX11_counts, List.mem_cons, List.not_mem_nil, or_false]; omega) (fun _ _ => ?_)
    | refine zPr.bI (by assumption) (by simp only [sX11_counts, List.mem_cons, List.not_mem_nil, or_false]; omega) (fun _ _ => ?_)
    | refine zPr.bL (by assumption) (by simp only [sX11_counts, List.mem_cons, List.not_mem_nil, or_false]; omega) (fun _ _ => ?_)
    | refine zPr.wC (by assumption) (by simp only [sX11_counts, List.mem_cons, List.not_mem_nil, or_false]; omega) (fun _ _ => ?_)
    | refine zPr.aI (fun _ => ?_)
    | refine zPr.aL (fun _ => ?_)
    | refine zPr.gd ?_
    | refine zPr.bw (S' := sX11_ahead) (by assumption) (mX11_ahead ..) (fun p hp => by simp only [sX11_ahead, sX11_counts, List.mem_cons, List.not_mem_nil, or_false] at hp ⊢ <;> omega) (fun _ _ => ?_)
    | refine zPr.bw (S' := sX11_blame) (by assumption) (mX11_blame ..) (fun p hp => by simp only [sX11_blame, sX11_counts, List.mem_cons, List.not_mem_nil, or_false] at hp ⊢ <;> omega) (fun _ _ => ?_)
    | refine zPr.bnr (fun _ => ?_)
    | refine zPr.bnv (fun _ => ?_)
    | exact zPr.tail (S' := sX11_counts) (by assumption) (mX11_counts_32 ..) (fun _ h => h)
theorem mX11_counts (p1 : Int32) (σ : zS) : zPr (sX11_counts σ.2.2) σ Prod.snd (fX11_counts p1 σ) := by
  unfold fX11_counts
  have hc := zSm.rfl (sX11_counts σ.2.2) σ
  repeat' first
    | exact zPr.none
    | exact zPr.some (by assumption)
    | refine zPr.ite ?_ ?_
    | refine zPr.wI (by assumption) (by simp only [sX11_counts, List.mem_cons, List.not_mem_nil, or_false]; omega) (fun _ _ => ?_)
    | refine zPr.wL (by assumption) (by simp only [sX11_counts, List.mem_cons, List.not_mem_nil, or_false]; omega) (fun _ _ => ?_)
    | refine zPr.bI (by assumption) (by simp only [sX11_counts, List.mem_cons, List.not_mem_nil, or_false]; omega) (fun _ _ => ?_)
    | refine zPr.bL (by assumption) (by simp only [sX11_counts, List.mem_cons, List.not_mem_nil, or_false]; omega) (fun _ _ => ?_)
    | refine zPr.wC (by assumption) (by simp only [sX11_counts, List.mem_cons, List.not_mem_nil, or_false]; omega) (fun _ _ => ?_)
    | refine zPr.aI (fun _ => ?_)
    | refine zPr.aL (fun _ => ?_)
    | refine zPr.gd ?_
    | refine zPr.bw (S' := sX11_ahead) (by assumption) (mX11_ahead ..) (fun p hp => by simp only [sX11_ahead, sX11_counts, List.mem_cons, List.not_mem_nil, or_false] at hp ⊢ <;> omega) (fun _ _ => ?_)
    | refine zPr.bw (S' := sX11_blame) (by assumption) (mX11_blame ..) (fun p hp => by simp only [sX11_blame, sX11_counts, List.mem_cons, List.not_mem_nil, or_false] at hp ⊢ <;> omega) (fun _ _ => ?_)
    | refine zPr.bnr (fun _ => ?_)
    | refine zPr.bnv (fun _ => ?_)
    | exact zPr.tail (S' := sX11_counts) (by assumption) (mX11_counts_32 ..) (fun _ h => h)
    | exact zPr.tail (S' := sX11_counts) (by assumption) (mX11_counts_21 ..) (fun _ h => h)
def sX11_must_ (t : Bool × Bool × Bool) : List Nat := [56]
theorem mX11_must__29 (σ : zS) : zPr (sX11_must_ σ.2.2) σ id (fX11_must__29 σ) := by
  unfold fX11_must__29
  have hc := zSm.rfl (sX11_must_ σ.2.2) σ
  repeat' first
    | exact zPr.none
    | exact zPr.some (by assumption)
    | refine zPr.ite ?_ ?_
    | refine zPr.wI (by assumption) (by simp only [sX11_must_, List.mem_cons, List.not_mem_nil, or_false]; omega) (fun _ _ => ?_)
    | refine zPr.wL (by assumption) (by simp only [sX11_must_, List.mem_cons, List.not_mem_nil, or_false]; omega) (fun _ _ => ?_)
    | refine zPr.bI (by assumption) (by simp only [sX11_must_, List.mem_cons, List.not_mem_nil, or_false]; omega) (fun _ _ => ?_)
    | refine zPr.bL (by assumption) (by simp only [sX11_must_, List.mem_cons, List.not_mem_nil, or_false]; omega) (fun _ _ => ?_)
    | refine zPr.wC (by assumption) (by simp only [sX11_must_, List.mem_cons, List.not_mem_nil, or_false]; omega) (fun _ _ => ?_)
    | refine zPr.aI (fun _ => ?_)
    | refine zPr.aL (fun _ => ?_)
    | refine zPr.gd ?_
    | refine zPr.bw (S' := sX11_ahead) (by assumption) (mX11_ahead ..) (fun p hp => by simp only [sX11_ahead, sX11_must_, List.mem_cons, List.not_mem_nil, or_false] at hp ⊢ <;> omega) (fun _ _ => ?_)
    | refine zPr.bw (S' := sX11_blame) (by assumption) (mX11_blame ..) (fun p hp => by simp only [sX11_blame, sX11_must_, List.mem_cons, List.not_mem_nil, or_false] at hp ⊢ <;> omega) (fun _ _ => ?_)
    | refine zPr.bw (S' := sX11_lex) (by assumption) (mX11_lex ..) (fun p hp => by simp only [sX11_lex, sX11_must_, List.mem_cons, List.not_mem_nil, or_false] at hp ⊢ <;> omega) (fun _ _ => ?_)
    | refine zPr.bnr (fun _ => ?_)
    | refine zPr.bnv (fun _ => ?_)
theorem mX11_must_ (p1 : Int64) (σ : zS) : zPr (sX11_must_ σ.2.2) σ id (fX11_must_ p1 σ) := by
  unfold fX11_must_
  have hc := zSm.rfl (sX11_must_ σ.2.2) σ
  repeat' first
    | exact zPr.none
    | exact zPr.some (by assumption)
    | refine zPr.ite ?_ ?_
    | refine zPr.wI (by assumption) (by simp only [sX11_must_, List.mem_cons, List.not_mem_nil, or_false]; omega) (fun _ _ => ?_)
    | refine zPr.wL (by assumption) (by simp only [sX11_must_, List.mem_cons, List.not_mem_nil, or_false]; omega) (fun _ _ => ?_)
    | refine zPr.bI (by assumption) (by simp only [sX11_must_, List.mem_cons, List.not_mem_nil, or_false]; omega) (fun _ _ => ?_)
    | refine zPr.bL (by assumption) (by simp only [sX11_must_, List.mem_cons, List.not_mem_nil, or_false]; omega) (fun _ _ => ?_)
    | refine zPr.wC (by assumption) (by simp only [sX11_must_, List.mem_cons, List.not_mem_nil, or_false]; omega) (fun _ _ => ?_)
    | refine zPr.aI (fun _ => ?_)
    | refine zPr.aL (fun _ => ?_)
    | refine zPr.gd ?_
    | refine zPr.bw (S' := sX11_ahead) (by assumption) (mX11_ahead ..) (fun p hp => by simp only [sX11_ahead, sX11_must_, List.mem_cons, List.not_mem_nil, or_false] at hp ⊢ <;> omega) (fun _ _ => ?_)
    | refine zPr.bw (S' := sX11_blame) (by assumption) (mX11_blame ..) (fun p hp => by simp only [sX11_blame, sX11_must_, List.mem_cons, List.not_mem_nil, or_false] at hp ⊢ <;> omega) (fun _ _ => ?_)
    | refine zPr.bw (S' := sX11_lex) (by assumption) (mX11_lex ..) (fun p hp => by simp only [sX11_lex, sX11_must_, List.mem_cons, List.not_mem_nil, or_false] at hp ⊢ <;> omega) (fun _ _ => ?_)
    | refine zPr.bnr (fun _ => ?_)
    | refine zPr.bnv (fun _ => ?_)
    | exact zPr.tail (S' := sX11_must_) (by assumption) (mX11_must__29 ..) (fun _ h => h)
def sX11_fresh (t : Bool × Bool × Bool) : List Nat := [56]
theorem mX11_fresh_83 (σ : zS) : zPr (sX11_fresh σ.2.2) σ Prod.snd (fX11_fresh_83 σ) := by
  unfold fX11_fresh_83
  have hc := zSm.rfl (sX11_fresh σ.2.2) σ
  repeat' first
    | exact zPr.none
    | exact zPr.some (by assumption)
    | refine zPr.ite ?_ ?_
    | refine zPr.wI (by assumption) (by simp only [sX11_fresh, List.mem_cons, List.not_mem_nil, or_false]; omega) (fun _ _ => ?_)
    | refine zPr.wL (by assumption) (by simp only [sX11_fresh, List.mem_cons, List.not_mem_nil, or_false]; omega) (fun _ _ => ?_)
    | refine zPr.bI (by assumption) (by simp only [sX11_fresh, List.mem_cons, List.not_mem_nil, or_false]; omega) (fun _ _ => ?_)
    | refine zPr.bL (by assumption) (by simp only [sX11_fresh, List.mem_cons, List.not_mem_nil, or_false]; omega) (fun _ _ => ?_)
    | refine zPr.wC (by assumption) (by simp only [sX11_fresh, List.mem_cons, List.not_mem_nil, or_false]; omega) (fun _ _ => ?_)
    | refine zPr.aI (fun _ => ?_)
    | refine zPr.aL (fun _ => ?_)
    | refine zPr.gd ?_
    | refine zPr.bw (S' := sX11_ahead) (by assumption) (mX11_ahead ..) (fun p hp => by simp only [sX11_ahead, sX11_fresh, List.mem_cons, List.not_mem_nil, or_false] at hp ⊢ <;> omega) (fun _ _ => ?_)
    | refine zPr.bw (S' := sX11_blame) (by assumption) (mX11_blame ..) (fun p hp => by simp only [sX11_blame, sX11_fresh, List.mem_cons, List.not_mem_nil, or_false] at hp ⊢ <;> omega) (fun _ _ => ?_)
    | refine zPr.bw (S' := sX11_lex) (by assumption) (mX11_lex ..) (fun p hp => by simp only [sX11_lex, sX11_fresh, List.mem_cons, List.not_mem_nil, or_false] at hp ⊢ <;> omega) (fun _ _ => ?_)
    | refine zPr.bnr (fun _ => ?_)
    | refine zPr.bnv (fun _ => ?_)
theorem mX11_fresh_77 (r43 : Int32 → zS → Option (Int64 × zS)) (hr43 : ∀ (x0 : Int32) (σ : zS), zPr (sX11_fresh σ.2.2) σ Prod.snd (r43 x0 σ)) (x1 : Int32) (σ : zS) : zPr (sX11_fresh σ.2.2) σ Prod.snd (fX11_fresh_77 r43 x1 σ) := by
  unfold fX11_fresh_77
  have hc := zSm.rfl (sX11_fresh σ.2.2) σ
  repeat' first
    | exact zPr.none
    | exact zPr.some (by assumption)
    | refine zPr.ite ?_ ?_
    | refine zPr.wI (by assumption) (by simp only [sX11_fresh, List.mem_cons, List.not_mem_nil, or_false]; omega) (fun _ _ => ?_)
    | refine zPr.wL (by assumption) (by simp only [sX11_fresh, List.mem_cons, List.not_mem_nil, or_false]; omega) (fun _ _ => ?_)
    | refine zPr.bI (by assumption) (by simp only [sX11_fresh, List.mem_cons, List.not_mem_nil, or_false]; omega) (fun _ _ => ?_)
    | refine zPr.bL (by assumption) (by simp only [sX11_fresh, List.mem_cons, List.not_mem_nil, or_false]; omega) (fun _ _ => ?_)
    | refine zPr.wC (by assumption) (by simp only [sX11_fresh, List.mem_cons, List.not_mem_nil, or_false]; omega) (fun _ _ => ?_)
    | refine zPr.aI (fun _ => ?_)
    | refine zPr.aL (fun _ => ?_)
    | refine zPr.gd ?_
    | refine zPr.bw (S' := sX11_ahead) (by assumption) (mX11_ahead ..) (fun p hp => by simp only [sX11_ahead, sX11_fresh, List.mem_cons, List.not_mem_nil, or_false] at hp ⊢ <;> omega) (fun _ _ => ?_)
    | refine zPr.bw (S' := sX11_blame) (by assumption) (mX11_blame ..) (fun p hp => by simp only [sX11_blame, sX11_fresh, List.mem_cons, List.not_mem_nil, or_false] at hp ⊢ <;> omega) (fun _ _ => ?_)
    | refine zPr.bw (S' := sX11_lex) (by assumption) (mX11_lex ..) (fun p hp => by simp only [sX11_lex, sX11_fresh, List.mem_cons, List.not_mem_nil, or_false] at hp ⊢ <;> omega) (fun _ _ => ?_)
    | refine zPr.bnr (fun _ => ?_)
    | refine zPr.bnv (fun _ => ?_)
    | exact zPr.tail (S' := sX11_fresh) (by assumption) (hr43 ..) (fun _ h => h)
    | exact zPr.tail (S' := sX11_fresh) (by assumption) (mX11_fresh_83 ..) (fun _ h => h)
theorem mX11_fresh_43 : ∀ (fuel : Nat) (x1 : Int32) (σ : zS), zPr (sX11_fresh σ.2.2) σ Prod.snd (fX11_fresh_43 fuel x1 σ) := by
  intro fuel
  induction fuel with
  | zero => intro x1 σ; exact zPr.none
  | succ f ih =>
    intro x1 σ
    rw [fX11_fresh_43]
    have hc := zSm.rfl (sX11_fresh σ.2.2) σ
    repeat' first
      | exact zPr.none
      | exact zPr.some (by assumption)
      | refine zPr.ite ?_ ?_
      | refine zPr.wI (by assumption) (by simp only [sX11_fresh, List.mem_cons, List.not_mem_nil, or_false]; omega) (fun _ _ => ?_)
      | refine zPr.wL (by assumption) (by simp only [sX11_fresh, List.mem_cons, List.not_mem_nil, or_false]; omega) (fun _ _ => ?_)
      | refine zPr.bI (by assumption) (by simp only [sX11_fresh, List.mem_cons, List.not_mem_nil, or_false]; omega) (fun _ _ => ?_)
      | refine zPr.bL (by assumption) (by simp only [sX11_fresh, List.mem_cons, List.not_mem_nil, or_false]; omega) (fun _ _ => ?_)
      | refine zPr.wC (by assumption) (by simp only [sX11_fresh, List.mem_cons, List.not_mem_nil, or_false]; omega) (fun _ _ => ?_)
      | refine zPr.aI (fun _ => ?_)
      | refine zPr.aL (fun _ => ?_)
      | refine zPr.gd ?_
      | refine zPr.bw (S' := sX11_ahead) (by assumption) (mX11_ahead ..) (fun p hp => by simp only [sX11_ahead, sX11_fresh, List.mem_cons, List.not_mem_nil, or_false] at hp ⊢ <;> omega) (fun _ _ => ?_)
      | refine zPr.bw (S' := sX11_blame) (by assumption) (mX11_blame ..) (fun p hp => by simp only [sX11_blame, sX11_fresh, List.mem_cons, List.not_mem_nil, or_false] at hp ⊢ <;> omega) (fun _ _ => ?_)
      | refine zPr.bw (S' := sX11_lex) (by assumption) (mX11_lex ..) (fun p hp => by simp only [sX11_lex, sX11_fresh, List.mem_cons, List.not_mem_nil, or_false] at hp ⊢ <;> omega) (fun _ _ => ?_)
      | refine zPr.bnr (fun _ => ?_)
      | refine zPr.bnv (fun _ => ?_)
      | exact zPr.tail (S' := sX11_fresh) (by assumption) (ih ..) (fun _ h => h)
      | exact zPr.tail (S' := sX11_fresh) (by assumption) (mX11_fresh_83 ..) (fun _ h => h)
      | exact zPr.tail (S' := sX11_fresh) (by assumption) (mX11_fresh_77 _ (by first | assumption | exact ih | (intros; apply ih) | (intros; apply mX11_fresh_43)) ..) (fun _ h => h)
theorem mX11_fresh_41 (σ : zS) : zPr (sX11_fresh σ.2.2) σ Prod.snd (fX11_fresh_41 σ) := by
  unfold fX11_fresh_41
  have hc := zSm.rfl (sX11_fresh σ.2.2) σ
  repeat' first
    | exact zPr.none
    | exact zPr.some (by assumption)
    | refine zPr.ite ?_ ?_
    | refine zPr.wI (by assumption) (by simp only [sX11_fresh, List.mem_cons, List.not_mem_nil, or_false]; omega) (fun _ _ => ?_)
    | refine zPr.wL (by assumption) (by simp only [sX11_fresh, List.mem_cons, List.not_mem_nil, or_false]; omega) (fun _ _ => ?_)
    | refine zPr.bI (by assumption) (by simp only [sX11_fresh, List.mem_cons, List.not_mem_nil, or_false]; omega) (fun _ _ => ?_)
    | refine zPr.bL (by assumption) (by simp only [sX11_fresh, List.mem_cons, List.not_mem_nil, or_false]; omega) (fun _ _ => ?_)
    | refine zPr.wC (by assumption) (by simp only [sX11_fresh, List.mem_cons, List.not_mem_nil, or_false]; omega) (fun _ _ => ?_)
    | refine zPr.aI (fun _ => ?_)
    | refine zPr.aL (fun _ => ?_)
    | refine zPr.gd ?_
    | refine zPr.bw (S' := sX11_ahead) (by assumption) (mX11_ahead ..) (fun p hp => by simp only [sX11_ahead, sX11_fresh, List.mem_cons, List.not_mem_nil, or_false] at hp ⊢ <;> omega) (fun _ _ => ?_)
    | refine zPr.bw (S' := sX11_blame) (by assumption) (mX11_blame ..) (fun p hp => by simp only [sX11_blame, sX11_fresh, List.mem_cons, List.not_mem_nil, or_false] at hp ⊢ <;> omega) (fun _ _ => ?_)
    | refine zPr.bw (S' := sX11_lex) (by assumption) (mX11_lex ..) (fun p hp => by simp only [sX11_lex, sX11_fresh, List.mem_cons, List.not_mem_nil, or_false] at hp ⊢ <;> omega) (fun _ _ => ?_)
    | refine zPr.bnr (fun _ => ?_)
    | refine zPr.bnv (fun _ => ?_)
    | exact zPr.tail (S' := sX11_fresh) (by assumption) (mX11_fresh_83 ..) (fun _ h => h)
    | exact zPr.tail (S' := sX11_fresh) (by assumption) (mX11_fresh_77 _ (by first | assumption | exact ih | (intros; apply ih) | (intros; apply mX11_fresh_43)) ..) (fun _ h => h)
    | exact zPr.tail (S' := sX11_fresh) (by assumption) (mX11_fresh_43 ..) (fun _ h => h)
theorem mX11_fresh_32 (σ : zS) : zPr (sX11_fresh σ.2.2) σ Prod.snd (fX11_fresh_32 σ) := by
  unfold fX11_fresh_32
  have hc := zSm.rfl (sX11_fresh σ.2.2) σ
  repeat' first
    | exact zPr.none
    | exact zPr.some (by assumption)
    | refine zPr.ite ?_ ?_
    | refine zPr.wI (by assumption) (by simp only [sX11_fresh, List.mem_cons, List.not_mem_nil, or_false]; omega) (fun _ _ => ?_)
    | refine zPr.wL (by assumption) (by simp only [sX11_fresh, List.mem_cons, List.not_mem_nil, or_false]; omega) (fun _ _ => ?_)
    | refine zPr.bI (by assumption) (by simp only [sX11_fresh, List.mem_cons, List.not_mem_nil, or_false]; omega) (fun _ _ => ?_)
    | refine zPr.bL (by assumption) (by simp only [sX11_fresh, List.mem_cons, List.not_mem_nil, or_false]; omega) (fun _ _ => ?_)
    | refine zPr.wC (by assumption) (by simp only [sX11_fresh, List.mem_cons, List.not_mem_nil, or_false]; omega) (fun _ _ => ?_)
    | refine zPr.aI (fun _ => ?_)
    | refine zPr.aL (fun _ => ?_)
    | refine zPr.gd ?_
    | refine zPr.bw (S' := sX11_ahead) (by assumption) (mX11_ahead ..) (fun p hp => by simp only [sX11_ahead, sX11_fresh, List.mem_cons, List.not_mem_nil, or_false] at hp ⊢ <;> omega) (fun _ _ => ?_)
    | refine zPr.bw (S' := sX11_blame) (by assumption) (mX11_blame ..) (fun p hp => by simp only [sX11_blame, sX11_fresh, List.mem_cons, List.not_mem_nil, or_false] at hp ⊢ <;> omega) (fun _ _ => ?_)
    | refine zPr.bw (S' := sX11_lex) (by assumption) (mX11_lex ..) (fun p hp => by simp only [sX11_lex, sX11_fresh, List.mem_cons, List.not_mem_nil, or_false] at hp ⊢ <;> omega) (fun _ _ => ?_)
    | refine zPr.bnr (fun _ => ?_)
    | refine zPr.bnv (fun _ => ?_)
    | exact zPr.tail (S' := sX11_fresh) (by assumption) (mX11_fresh_83 ..) (fun _ h => h)
    | exact zPr.tail (S' := sX11_fresh) (by assumption) (mX11_fresh_77 _ (by first | assumption | exact ih | (intros; apply ih) | (intros; apply mX11_fresh_43)) ..) (fun _ h => h)
    | exact zPr.tail (S' := sX11_fresh) (by assumption) (mX11_fresh_43 ..) (fun _ h => h)
    | exact zPr.tail (S' := sX11_fresh) (by assumption) (mX11_fresh_41 ..) (fun _ h => h)
theorem mX11_fresh (σ : zS) : zPr (sX11_fresh σ.2.2) σ Prod.snd (fX11_fresh σ) := by
  unfold fX11_fresh
  have hc := zSm.rfl (sX11_fresh σ.2.2) σ
  repeat' first
    | exact zPr.none
    | exact zPr.some (by assumption)
    | refine zPr.ite ?_ ?_
    | refine zPr.wI (by assumption) (by simp only [sX11_fresh, List.mem_cons, List.not_mem_nil, or_false]; omega) (fun _ _ => ?_)
    | refine zPr.wL (by assumption) (by simp only [sX11_fresh, List.mem_cons, List.not_mem_nil, or_false]; omega) (fun _ _ => ?_)
    | refine zPr.bI (by assumption) (by simp only [sX11_fresh, List.mem_cons, List.not_mem_nil, or_false]; omega) (fun _ _ => ?_)
    | refine zPr.bL (by assumption) (by simp only [sX11_fresh, List.mem_cons, List.not_mem_nil, or_false]; omega) (fun _ _ => ?_)
    | refine zPr.wC (by assumption) (by simp only [sX11_fresh, List.mem_cons, List.not_mem_nil, or_false]; omega) (fun _ _ => ?_)
    | refine zPr.aI (fun _ => ?_)
    | refine zPr.aL (fun _ => ?_)
    | refine zPr.gd ?_
    | refine zPr.bw (S' := sX11_ahead) (by assumption) (mX11_ahead ..) (fun p hp => by simp only [sX11_ahead, sX11_fresh, List.mem_cons, List.not_mem_nil, or_false] at hp ⊢ <;> omega) (fun _ _ => ?_)
    | refine zPr.bw (S' := sX11_blame) (by assumption) (mX11_blame ..) (fun p hp => by simp only [sX11_blame, sX11_fresh, List.mem_cons, List.not_mem_nil, or_false] at hp ⊢ <;> omega) (fun _ _ => ?_)
    | refine zPr.bw (S' := sX11_lex) (by assumption) (mX11_lex ..) (fun p hp => by simp only [sX11_lex, sX11_fresh, List.mem_cons, List.not_mem_nil, or_false] at hp ⊢ <;> omega) (fun _ _ => ?_)
    | refine zPr.bnr (fun _ => ?_)
    | refine zPr.bnv (fun _ => ?_)
    | exact zPr.tail (S' := sX11_fresh) (by assumption) (mX11_fresh_83 ..) (fun _ h => h)
    | exact zPr.tail (S' := sX11_fresh) (by assumption) (mX11_fresh_77 _ (by first | assumption | exact ih | (intros; apply ih) | (intros; apply mX11_fresh_43)) ..) (fun _ h => h)
    | exact zPr.tail (S' := sX11_fresh) (by assumption) (mX11_fresh_43 ..) (fun _ h => h)
    | exact zPr.tail (S' := sX11_fresh) (by assumption) (mX11_fresh_41 ..) (fun _ h => h)
    | exact zPr.tail (S' := sX11_fresh) (by assumption) (mX11_fresh_32 ..) (fun _ h => h)
def sX11_asked (t : Bool × Bool × Bool) : List Nat := [56]
theorem mX11_asked_94 (x2 : Int32) (σ : zS) : zPr (sX11_asked σ.2.2) σ Prod.snd (fX11_asked_94 x2 σ) := by
  unfold fX11_asked_94
  have hc := zSm.rfl (sX11_asked σ.2.2) σ
  repeat' first
    | exact zPr.none
    | exact zPr.some (by assumption)
    | refine zPr.ite ?_ ?_
    | refine zPr.wI (by assumption) (by simp only [sX11_asked, List.mem_cons, List.not_mem_nil, or_false]; omega) (fun _ _ => ?_)
    | refine zPr.wL (by assumption) (by simp only [sX11_asked, List.mem_cons, List.not_mem_nil, or_false]; omega) (fun _ _ => ?_)
    | refine zPr.bI (by assumption) (by simp only [sX11_asked, List.mem_cons, List.not_mem_nil, or_false]; omega) (fun _ _ => ?_)
    | refine zPr.bL (by assumption) (by simp only [sX11_asked, List.mem_cons, List.not_mem_nil, or_false]; omega) (fun _ _ => ?_)
    | refine zPr.wC (by assumption) (by simp only [sX11_asked, List.mem_cons, List.not_mem_nil, or_false]; omega) (fun _ _ => ?_)
    | refine zPr.aI (fun _ => ?_)
    | refine zPr.aL (fun _ => ?_)
    | refine zPr.gd ?_
    | refine zPr.bw (S' := sX11_ahead) (by assumption) (mX11_ahead ..) (fun p hp => by simp only [sX11_ahead, sX11_asked, List.mem_cons, List.not_mem_nil, or_false] at hp ⊢ <;> omega) (fun _ _ => ?_)
    | refine zPr.bw (S' := sX11_blame) (by assumption) (mX11_blame ..) (fun p hp => by simp only [sX11_blame, sX11_asked, List.mem_cons, List.not_mem_nil, or_false] at hp ⊢ <;> omega) (fun _ _ => ?_)
    | refine zPr.bw (S' := sX11_lex) (by assumption) (mX11_lex ..) (fun p hp => by simp only [sX11_lex, sX11_asked, List.mem_cons, List.not_mem_nil, or_false] at hp ⊢ <;> omega) (fun _ _ => ?_)
    | refine zPr.bnr (fun _ => ?_)
    | refine zPr.bnv (fun _ => ?_)
theorem mX11_asked_83 (x2 : Int32) (σ : zS) : zPr (sX11_asked σ.2.2) σ Prod.snd (fX11_asked_83 x2 σ) := by
  unfold fX11_asked_83
  have hc := zSm.rfl (sX11_asked σ.2.2) σ
  repeat' first
    | exact zPr.none
    | exact zPr.some (by assumption)
    | refine zPr.ite ?_ ?_
    | refine zPr.wI (by assumption) (by simp only [sX11_asked, List.mem_cons, List.not_mem_nil, or_false]; omega) (fun _ _ => ?_)
    | refine zPr.wL (by assumption) (by simp only [sX11_asked, List.mem_cons, List.not_mem_nil, or_false]; omega) (fun _ _ => ?_)
    | refine zPr.bI (by assumption) (by simp only [sX11_asked, List.mem_cons, List.not_mem_nil, or_false]; omega) (fun _ _ => ?_)
    | refine zPr.bL (by assumption) (by simp only [sX11_asked, List.mem_cons, List.not_mem_nil, or_false]; omega) (fun _ _ => ?_)
    | refine zPr.wC (by assumption) (by simp only [sX11_asked, List.mem_cons, List.not_mem_nil, or_false]; omega) (fun _ _ => ?_)
    | refine zPr.aI (fun _ => ?_)
    | refine zPr.aL (fun _ => ?_)
    | refine zPr.gd ?_
    | refine zPr.bw (S' := sX11_ahead) (by assumption) (mX11_ahead ..) (fun p hp => by simp only [sX11_ahead, sX11_asked, List.mem_cons, List.not_mem_nil, or_false] at hp ⊢ <;> omega) (fun _ _ => ?_)
    | refine zPr.bw (S' := sX11_blame) (by assumption) (mX11_blame ..) (fun p hp => by simp only [sX11_blame, sX11_asked, List.mem_cons, List.not_mem_nil, or_false] at hp ⊢ <;> omega) (fun _ _ => ?_)
    | refine zPr.bw (S' := sX11_lex) (by assumption) (mX11_lex ..) (fun p hp => by simp only [sX11_lex, sX11_asked, List.mem_cons, List.not_mem_nil, or_false] at hp ⊢ <;> omega) (fun _ _ => ?_)
    | refine zPr.bnr (fun _ => ?_)
    | refine zPr.bnv (fun _ => ?_)
    | exact zPr.tail (S' := sX11_asked) (by assumption) (mX11_asked_94 ..) (fun _ h => h)
theorem mX11_asked_61 (s0 : Int32) (σ : zS) : zPr (sX11_asked σ.2.2) σ Prod.snd (fX11_asked_61 s0 σ) := by
  unfold fX11_asked_61
  have hc := zSm.rfl (sX11_asked σ.2.2) σ
  repeat' first
    | exact zPr.none
    | exact zPr.some (by assumption)
    | refine zPr.ite ?_ ?_
    | refine zPr.wI (by assumption) (by simp only [sX11_asked, List.mem_cons, List.not_mem_nil, or_false]; omega) (fun _ _ => ?_)
    | refine zPr.wL (by assumption) (by simp only [sX11_asked, List.mem_cons, List.not_mem_nil, or_false]; omega) (fun _ _ => ?_)
    | refine zPr.bI (by assumption) (by simp only [sX11_asked, List.mem_cons, List.not_mem_nil, or_false]; omega) (fun _ _ => ?_)
    | refine zPr.bL (by assumption) (by simp only [sX11_asked, List.mem_cons, List.not_mem_nil, or_false]; omega) (fun _ _ => ?_)
    | refine zPr.wC (by assumption) (by simp only [sX11_asked, List.mem_cons, List.not_mem_nil, or_false]; omega) (fun _ _ => ?_)
    | refine zPr.aI (fun _ => ?_)
    | refine zPr.aL (fun _ => ?_)
    | refine zPr.gd ?_
    | refine zPr.bw (S' := sX11_ahead) (by assumption) (mX11_ahead ..) (fun p hp => by simp only [sX11_ahead, sX11_asked, List.mem_cons, List.not_mem_nil, or_false] at hp ⊢ <;> omega) (fun _ _ => ?_)
    | refine zPr.bw (S' := sX11_blame) (by assumption) (mX11_blame ..) (fun p hp => by simp only [sX11_blame, sX11_asked, List.mem_cons, List.not_mem_nil, or_false] at hp ⊢ <;> omega) (fun _ _ => ?_)
    | refine zPr.bw (S' := sX11_lex) (by assumption) (mX11_lex ..) (fun p hp => by simp only [sX11_lex, sX11_asked, List.mem_cons, List.not_mem_nil, or_false] at hp ⊢ <;> omega) (fun _ _ => ?_)
    | refine zPr.bnr (fun _ => ?_)
    | refine zPr.bnv (fun _ => ?_)
    | exact zPr.tail (S' := sX11_asked) (by assumption) (mX11_asked_94 ..) (fun _ h => h)
    | exact zPr.tail (S' := sX11_asked) (by assumption) (mX11_asked_83 ..) (fun _ h => h)
theorem mX11_asked_41 (x1 : Int32) (σ : zS) : zPr (sX11_asked σ.2.2) σ Prod.snd (fX11_asked_41 x1 σ) := by
  unfold fX11_asked_41
  have hc := zSm.rfl (sX11_asked σ.2.2) σ
  repeat' first
    | exact zPr.none
    | exact zPr.some (by assumption)
    | refine zPr.ite ?_ ?_
    | refine zPr.wI (by assumption) (by simp only [sX11_asked, List.mem_cons, List.not_mem_nil, or_false]; omega) (fun _ _ => ?_)
    | refine zPr.wL (by assumption) (by simp only [sX11_asked, List.mem_cons, List.not_mem_nil, or_false]; omega) (fun _ _ => ?_)
    | refine zPr.bI (by assumption) (by simp only [sX11_asked, List.mem_cons, List.not_mem_nil, or_false]; omega) (fun _ _ => ?_)
    | refine zPr.bL (by assumption) (by simp only [sX11_asked, List.mem_cons, List.not_mem_nil, or_false]; omega) (fun _ _ => ?_)
    | refine zPr.wC (by assumption) (by simp only [sX11_asked, List.mem_cons, List.not_mem_nil, or_false]; omega) (fun _ _ => ?_)
    | refine zPr.aI (fun _ => ?_)
    | refine zPr.aL (fun _ => ?_)
    | refine zPr.gd ?_
    | refine zPr.bw (S' := sX11_ahead) (by assumption) (mX11_ahead ..) (fun p hp => by simp only [sX11_ahead, sX11_asked, List.mem_cons, List.not_mem_nil, or_false] at hp ⊢ <;> omega) (fun _ _ => ?_)
    | refine zPr.bw (S' := sX11_blame) (by assumption) (mX11_blame ..) (fun p hp => by simp only [sX11_blame, sX11_asked, List.mem_cons, List.not_mem_nil, or_false] at hp ⊢ <;> omega) (fun _ _ => ?_)
    | refine zPr.bw (S' := sX11_lex) (by assumption) (mX11_lex ..) (fun p hp => by simp only [sX11_lex, sX11_asked, List.mem_cons, List.not_mem_nil, or_false] at hp ⊢ <;> omega) (fun _ _ => ?_)
    | refine zPr.bnr (fun _ => ?_)
    | refine zPr.bnv (fun _ => ?_)
    | exact zPr.tail (S' := sX11_asked) (by assumption) (mX11_asked_94 ..) (fun _ h => h)
    | exact zPr.tail (S' := sX11_asked) (by assumption) (mX11_asked_83 ..) (fun _ h => h)
    | exact zPr.tail (S' := sX11_asked) (by assumption) (mX11_asked_61 ..) (fun _ h => h)
theorem mX11_asked_32 (x1 : Int32) (σ : zS) : zPr (sX11_asked σ.2.2) σ Prod.snd (fX11_asked_32 x1 σ) := by
  unfold fX11_asked_32
  have hc := zSm.rfl (sX11_asked σ.2.2) σ
  repeat' first
    | exact zPr.none
    | exact zPr.some (by assumption)
    | refine zPr.ite ?_ ?_
    | refine zPr.wI (by assumption) (by simp only [sX11_asked, List.mem_cons, List.not_mem_nil, or_false]; omega) (fun _ _ => ?_)
    | refine zPr.wL (by assumption) (by simp only [sX11_asked, List.mem_cons, List.not_mem_nil, or_false]; omega) (fun _ _ => ?_)
    | refine zPr.bI (by assumption) (by simp only [sX11_asked, List.mem_cons, List.not_mem_nil, or_false]; omega) (fun _ _ => ?_)
    | refine zPr.bL (by assumption) (by simp only [sX11_asked, List.mem_cons, List.not_mem_nil, or_false]; omega) (fun _ _ => ?_)
    | refine zPr.wC (by assumption) (by simp only [sX11_asked, List.mem_cons, List.not_mem_nil, or_false]; omega) (fun _ _ => ?_)
    | refine zPr.aI (fun _ => ?_)
    | refine zPr.aL (fun _ => ?_)
    | refine zPr.gd ?_
    | refine zPr.bw (S' := sX11_ahead) (by assumption) (mX11_ahead ..) (fun p hp => by simp only [sX11_ahead, sX11_asked, List.mem_cons, List.not_mem_nil, or_false] at hp ⊢ <;> omega) (fun _ _ => ?_)
    | refine zPr.bw (S' := sX11_blame) (by assumption) (mX11_blame ..) (fun p hp => by simp only [sX11_blame, sX11_asked, List.mem_cons, List.not_mem_nil, or_false] at hp ⊢ <;> omega) (fun _ _ => ?_)
    | refine zPr.bw (S' := sX11_lex) (by assumption) (mX11_lex ..) (fun p hp => by simp only [sX11_lex, sX11_asked, List.mem_cons, List.not_mem_nil, or_false] at hp ⊢ <;> omega) (fun _ _ => ?_)
    | refine zPr.bnr (fun _ => ?_)
    | refine zPr.bnv (fun _ => ?_)
    | exact zPr.tail (S' := sX11_asked) (by assumption) (mX11_asked_94 ..) (fun _ h => h)
    | exact zPr.tail (S' := sX11_asked) (by assumption) (mX11_asked_83 ..) (fun _ h => h)
    | exact zPr.tail (S' := sX11_asked) (by assumption) (mX11_asked_61 ..) (fun _ h => h)
    | exact zPr.tail (S' := sX11_asked) (by assumption) (mX11_asked_41 ..) (fun _ h => h)
theorem mX11_asked (p1 : Int32) (σ : zS) : zPr (sX11_asked σ.2.2) σ Prod.snd (fX11_asked p1 σ) := by
  unfold fX11_asked
  have hc := zSm.rfl (sX11_asked σ.2.2) σ
  repeat' first
    | exact zPr.none
    | exact zPr.some (by assumption)
    | refine zPr.ite ?_ ?_
    | refine zPr.wI (by assumption) (by simp only [sX11_asked, List.mem_cons, List.not_mem_nil, or_false]; omega) (fun _ _ => ?_)
    | refine zPr.wL (by assumption) (by simp only [sX11_asked, List.mem_cons, List.not_mem_nil, or_false]; omega) (fun _ _ => ?_)
    | refine zPr.bI (by assumption) (by simp only [sX11_asked, List.mem_cons, List.not_mem_nil, or_false]; omega) (fun _ _ => ?_)
    | refine zPr.bL (by assumption) (by simp only [sX11_asked, List.mem_cons, List.not_mem_nil, or_false]; omega) (fun _ _ => ?_)
    | refine zPr.wC (by assumption) (by simp only [sX11_asked, List.mem_cons, List.not_mem_nil, or_false]; omega) (fun _ _ => ?_)
    | refine zPr.aI (fun _ => ?_)
    | refine zPr.aL (fun _ => ?_)
    | refine zPr.gd ?_
    | refine zPr.bw (S' := sX11_ahead) (by assumption) (mX11_ahead ..) (fun p hp => by simp only [sX11_ahead, sX11_asked, List.mem_cons, List.not_mem_nil, or_false] at hp ⊢ <;> omega) (fun _ _ => ?_)
    | refine zPr.bw (S' := sX11_blame) (by assumption) (mX11_blame ..) (fun p hp => by simp only [sX11_blame, sX11_asked, List.mem_cons, List.not_mem_nil, or_false] at hp ⊢ <;> omega) (fun _ _ => ?_)
    | refine zPr.bw (S' := sX11_lex) (by assumption) (mX11_lex ..) (fun p hp => by simp only [sX11_lex, sX11_asked, List.mem_cons, List.not_mem_nil, or_false] at hp ⊢ <;> omega) (fun _ _ => ?_)
    | refine zPr.bnr (fun _ => ?_)
    | refine zPr.bnv (fun _ => ?_)
    | exact zPr.tail (S' := sX11_asked) (by assumption) (mX11_asked_94 ..) (fun _ h => h)
    | exact zPr.tail (S' := sX11_asked) (by assumption) (mX11_asked_83 ..) (fun _ h => h)
    | exact zPr.tail (S' := sX11_asked) (by assumption) (mX11_asked_61 ..) (fun _ h => h)
    | exact zPr.tail (S' := sX11_asked) (by assumption) (mX11_asked_41 ..) (fun _ h => h)
    | exact zPr.tail (S' := sX11_asked) (by assumption) (mX11_asked_32 ..) (fun _ h => h)
def sX11_tunnelling (t : Bool × Bool × Bool) : List Nat := [56, 58, 59, 60, 61, 62, 76]
theorem mX11_tunnelling_288 (r102 : Int32 → Int32 → zS → Option zS) (hr102 : ∀ (x0 : Int32) (x1 : Int32) (σ : zS), zPr (sX11_tunnelling σ.2.2) σ id (r102 x0 x1 σ)) (x1 : Int32) (x2 : Int32) (σ : zS) : zPr (sX11_tunnelling σ.2.2) σ id (fX11_tunnelling_288 r102 x1 x2 σ) := by
  unfold fX11_tunnelling_288
  have hc := zSm.rfl (sX11_tunnelling σ.2.2) σ
  repeat' first
    | exact zPr.none
    | exact zPr.some (by assumption)
    | refine zPr.ite ?_ ?_
    | refine zPr.wI (by assumption) (by simp only [sX11_tunnelling, List.mem_cons, List.not_mem_nil, or_false]; omega) (fun _ _ => ?_)
    | refine zPr.wL (by assumption) (by simp only [sX11_tunnelling, List.mem_cons, List.not_mem_nil, or_false]; omega) (fun _ _ => ?_)
    | refine zPr.bI (by assumption) (by simp only [sX11_tunnelling, List.mem_cons, List.not_mem_nil, or_false]; omega) (fun _ _ => ?_)
    | refine zPr.bL (by assumption) (by simp only [sX11_tunnelling, List.mem_cons, List.not_mem_nil, or_false]; omega) (fun _ _ => ?_)
    | refine zPr.wC (by assumption) (by simp only [sX11_tunnelling, List.mem_cons, List.not_mem_nil, or_false]; omega) (fun _ _ => ?_)
    | refine zPr.aI (fun _ => ?_)
    | refine zPr.aL (fun _ => ?_)
    | refine zPr.gd ?_
    | refine zPr.bw (S' := sX11_ahead) (by assumption) (mX11_ahead ..) (fun p hp => by simp only [sX11_ahead, sX11_tunnelling, List.mem_cons, List.not_mem_nil, or_false] at hp ⊢ <;> omega) (fun _ _ => ?_)
    | refine zPr.bw (S' := sX11_blame) (by assumption) (mX11_blame ..) (fun p hp => by simp only [sX11_blame, sX11_tunnelling, List.mem_cons, List.not_mem_nil, or_false] at hp ⊢ <;> omega) (fun _ _ => ?_)
    | refine zPr.bc (S' := sX11_counts) (by assumption) (mX11_counts ..) (fun p hp => by simp only [sX11_counts, sX11_tunnelling, List.mem_cons, List.not_mem_nil, or_false] at hp ⊢ <;> omega) (fun _ _ _ => ?_)
    | refine zPr.bc (S' := sX11_fresh) (by assumption) (mX11_fresh ..) (fun p hp => by simp only [sX11_fresh, sX11_tunnelling, List.mem_cons, List.not_mem_nil, or_false] at hp ⊢ <;> omega) (fun _ _ _ => ?_)
    | refine zPr.bw (S' := sX11_lex) (by assumption) (mX11_lex ..) (fun p hp => by simp only [sX11_lex, sX11_tunnelling, List.mem_cons, List.not_mem_nil, or_false] at hp ⊢ <;> omega) (fun _ _ => ?_)
    | refine zPr.bc (S' := sX11_lookedAt) (by assumption) (mX11_lookedAt ..) (fun p hp => by simp only [sX11_lookedAt, sX11_tunnelling, List.mem_cons, List.not_mem_nil, or_false] at hp ⊢ <;> omega) (fun _ _ _ => ?_)
    | refine zPr.bw (S' := sX11_must_) (by assumption) (mX11_must_ ..) (fun p hp => by simp only [sX11_must_, sX11_tunnelling, List.mem_cons, List.not_mem_nil, or_false] at hp ⊢ <;> omega) (fun _ _ => ?_)
    | refine zPr.bc (S' := sX11_number) (by assumption) (mX11_number ..) (fun p hp => by simp only [sX11_number, sX11_tunnelling, List.mem_cons, List.not_mem_nil, or_false] at hp ⊢ <;> omega) (fun _ _ _ => ?_)
    | refine zPr.bnr (fun _ => ?_)
    | refine zPr.bnv (fun _ => ?_)
    | exact zPr.tail (S' := sX11_tunnelling) (by assumption) (hr102 ..) (fun _ h => h)
theorem mX11_tunnelling_284 (r102 : Int32 → Int32 → zS → Option zS) (hr102 : ∀ (x0 : Int32) (x1 : Int32) (σ : zS), zPr (sX11_tunnelling σ.2.2) σ id (r102 x0 x1 σ)) (x1 : Int32) (s0 : Int32) (σ : zS) : zPr (sX11_tunnelling σ.2.2) σ id (fX11_tunnelling_284 r102 x1 s0 σ) := by
  unfold fX11_tunnelling_284
  have hc := zSm.rfl (sX11_tunnelling σ.2.2) σ
  repeat' first
    | exact zPr.none
    | exact zPr.some (by assumption)
    | refine zPr.ite ?_ ?_
    | refine zPr.wI (by assumption) (by simp only [sX11_tunnelling, List.mem_cons, List.not_mem_nil, or_false]; omega) (fun _ _ => ?_)
    | refine zPr.wL (by assumption) (by simp only [sX11_tunnelling, List.mem_cons, List.not_mem_nil, or_false]; omega) (fun _ _ => ?_)
    | refine zPr.bI (by assumption) (by simp only [sX11_tunnelling, List.mem_cons, List.not_mem_nil, or_false]; omega) (fun _ _ => ?_)
    | refine zPr.bL (by assumption) (by simp only [sX11_tunnelling, List.mem_cons, List.not_mem_nil, or_false]; omega) (fun _ _ => ?_)
    | refine zPr.wC (by assumption) (by simp only [sX11_tunnelling, List.mem_cons, List.not_mem_nil, or_false]; omega) (fun _ _ => ?_)
    | refine zPr.aI (fun _ => ?_)
    | refine zPr.aL (fun _ => ?_)
    | refine zPr.gd ?_
    | refine zPr.bw (S' := sX11_ahead) (by assumption) (mX11_ahead ..) (fun p hp => by simp only [sX11_ahead, sX11_tunnelling, List.mem_cons, List.not_mem_nil, or_false] at hp ⊢ <;> omega) (fun _ _ => ?_)
    | refine zPr.bw (S' := sX11_blame) (by assumption) (mX11_blame ..) (fun p hp => by simp only [sX11_blame, sX11_tunnelling, List.mem_cons, List.not_mem_nil, or_false] at hp ⊢ <;> omega) (fun _ _ => ?_)
    | refine zPr.bc (S' := sX11_counts) (by assumption) (mX11_counts ..) (fun p hp => by simp only [sX11_counts, sX11_tunnelling, List.mem_cons, List.not_mem_nil, or_false] at hp ⊢ <;> omega) (fun _ _ _ => ?_)
    | refine zPr.bc (S' := sX11_fresh) (by assumption) (mX11_fresh ..) (fun p hp => by simp only [sX11_fresh, sX11_tunnelling, List.mem_cons, List.not_mem_nil, or_false] at hp ⊢ <;> omega) (fun _ _ _ => ?_)
    | refine zPr.bw (S' := sX11_lex) (by assumption) (mX11_lex ..) (fun p hp => by simp only [sX11_lex, sX11_tunnelling, List.mem_cons, List.not_mem_nil, or_false] at hp ⊢ <;> omega) (fun _ _ => ?_)
    | refine zPr.bc (S' := sX11_lookedAt) (by assumption) (mX11_lookedAt ..) (fun p hp => by simp only [sX11_lookedAt, sX11_tunnelling, List.mem_cons, List.not_mem_nil, or_false] at hp ⊢ <;> omega) (fun _ _ _ => ?_)
    | refine zPr.bw (S' := sX11_must_) (by assumption) (mX11_must_ ..) (fun p hp => by simp only [sX11_must_, sX11_tunnelling, List.mem_cons, List.not_mem_nil, or_false] at hp ⊢ <;> omega) (fun _ _ => ?_)
    | refine zPr.bc (S' := sX11_number) (by assumption) (mX11_number ..) (fun p hp => by simp only [sX11_number, sX11_tunnelling, List.mem_cons, List.not_mem_nil, or_false] at hp ⊢ <;> omega) (fun _ _ _ => ?_)
    | refine zPr.bnr (fun _ => ?_)
    | refine zPr.bnv (fun _ => ?_)
    | exact zPr.tail (S' := sX11_tunnelling) (by assumption) (hr102 ..) (fun _ h => h)
    | exact zPr.tail (S' := sX11_tunnelling) (by assumption) (mX11_tunnelling_288 _ (by first | assumption | exact ih | (intros; apply ih) | (intros; apply mX11_tunnelling_102)) ..) (fun _ h => h)
theorem mX11_tunnelling_263 (r102 : Int32 → Int32 → zS → Option zS) (hr102 : ∀ (x0 : Int32) (x1 : Int32) (σ : zS), zPr (sX11_tunnelling σ.2.2) σ id (r102 x0 x1 σ)) (x1 : Int32) (s0 : Int32) (σ : zS) : zPr (sX11_tunnelling σ.2.2) σ id (fX11_tunnelling_263 r102 x1 s0 σ) := by
  unfold fX11_tunnelling_263
  have hc := zSm.rfl (sX11_tunnelling σ.2.2) σ
  repeat' first
    | exact zPr.none
    | exact zPr.some (by assumption)
    | refine zPr.ite ?_ ?_
    | refine zPr.wI (by assumption) (by simp only [sX11_tunnelling, List.mem_cons, List.not_mem_nil, or_false]; omega) (fun _ _ => ?_)
    | refine zPr.wL (by assumption) (by simp only [sX11_tunnelling, List.mem_cons, List.not_mem_nil, or_false]; omega) (fun _ _ => ?_)
    | refine zPr.bI (by assumption) (by simp only [sX11_tunnelling, List.mem_cons, List.not_mem_nil, or_false]; omega) (fun _ _ => ?_)
    | refine zPr.bL (by assumption) (by simp only [sX11_tunnelling, List.mem_cons, List.not_mem_nil, or_false]; omega) (fun _ _ => ?_)
    | refine zPr.wC (by assumption) (by simp only [sX11_tunnelling, List.mem_cons, List.not_mem_nil, or_false]; omega) (fun _ _ => ?_)
    | refine zPr.aI (fun _ => ?_)
    | refine zPr.aL (fun _ => ?_)
    | refine zPr.gd ?_
    | refine zPr.bw (S' := sX11_ahead) (by assumption) (mX11_ahead ..) (fun p hp => by simp only [sX11_ahead, sX11_tunnelling, List.mem_cons, List.not_mem_nil, or_false] at hp ⊢ <;> omega) (fun _ _ => ?_)
    | refine zPr.bw (S' := sX11_blame) (by assumption) (mX11_blame ..) (fun p hp => by simp only [sX11_blame, sX11_tunnelling, List.mem_cons, List.not_mem_nil, or_false] at hp ⊢ <;> omega) (fun _ _ => ?_)
    | refine zPr.bc (S' := sX11_counts) (by assumption) (mX11_counts ..) (fun p hp => by simp only [sX11_counts, sX11_tunnelling, List.mem_cons, List.not_mem_nil, or_false] at hp ⊢ <;> omega) (fun _ _ _ => ?_)
    | refine zPr.bc (S' := sX11_fresh) (by assumption) (mX11_fresh ..) (fun p hp => by simp only [sX11_fresh, sX11_tunnelling, List.mem_cons, List.not_mem_nil, or_false] at hp ⊢ <;> omega) (fun _ _ _ => ?_)
    | refine zPr.bw (S' := sX11_lex) (by assumption) (mX11_lex ..) (fun p hp => by simp only [sX11_lex, sX11_tunnelling, List.mem_cons, List.not_mem_nil, or_false] at hp ⊢ <;> omega) (fun _ _ => ?_)
    | refine zPr.bc (S' := sX11_lookedAt) (by assumption) (mX11_lookedAt ..) (fun p hp => by simp only [sX11_lookedAt, sX11_tunnelling, List.mem_cons, List.not_mem_nil, or_false] at hp ⊢ <;> omega) (fun _ _ _ => ?_)
    | refine zPr.bw (S' := sX11_must_) (by assumption) (mX11_must_ ..) (fun p hp => by simp only [sX11_must_, sX11_tunnelling, List.mem_cons, List.not_mem_nil, or_false] at hp ⊢ <;> omega) (fun _ _ => ?_)
    | refine zPr.bc (S' := sX11_number) (by assumption) (mX11_number ..) (fun p hp => by simp only [sX11_number, sX11_tunnelling, List.mem_cons, List.not_mem_nil, or_false] at hp ⊢ <;> omega) (fun _ _ _ => ?_)
    | refine zPr.bnr (fun _ => ?_)
    | refine zPr.bnv (fun _ => ?_)
    | exact zPr.tail (S' := sX11_tunnelling) (by assumption) (hr102 ..) (fun _ h => h)
    | exact zPr.tail (S' := sX11_tunnelling) (by assumption) (mX11_tunnelling_288 _ (by first | assumption | exact ih | (intros; apply ih) | (intros; apply mX11_tunnelling_102)) ..) (fun _ h => h)
    | exact zPr.tail (S' := sX11_tunnelling) (by assumption) (mX11_tunnelling_284 _ (by first | assumption | exact ih | (intros; apply ih) | (intros; apply mX11_tunnelling_102)) ..) (fun _ h => h)
theorem mX11_tunnelling_262 (r102 : Int32 → Int32 → zS → Option zS) (hr102 : ∀ (x0 : Int32) (x1 : Int32) (σ : zS), zPr (sX11_tunnelling σ.2.2) σ id (r102 x0 x1 σ)) (x1 : Int32) (σ : zS) : zPr (sX11_tunnelling σ.2.2) σ id (fX11_tunnelling_262 r102 x1 σ) := by
  unfold fX11_tunnelling_262
  have hc := zSm.rfl (sX11_tunnelling σ.2.2) σ
  repeat' first
    | exact zPr.none
    | exact zPr.some (by assumption)
    | refine zPr.ite ?_ ?_
    | refine zPr.wI (by assumption) (by simp only [sX11_tunnelling, List.mem_cons, List.not_mem_nil, or_false]; omega) (fun _ _ => ?_)
    | refine zPr.wL (by assumption) (by simp only [sX11_tunnelling, List.mem_cons, List.not_mem_nil, or_false]; omega) (fun _ _ => ?_)
    | refine zPr.bI (by assumption) (by simp only [sX11_tunnelling, List.mem_cons, List.not_mem_nil, or_false]; omega) (fun _ _ => ?_)
    | refine zPr.bL (by assumption) (by simp only [sX11_tunnelling, List.mem_cons, List.not_mem_nil, or_false]; omega) (fun _ _ => ?_)
    | refine zPr.wC (by assumption) (by simp only [sX11_tunnelling, List.mem_cons, List.not_mem_nil, or_false]; omega) (fun _ _ => ?_)
    | refine zPr.aI (fun _ => ?_)
    | refine zPr.aL (fun _ => ?_)
    | refine zPr.gd ?_
    | refine zPr.bw (S' := sX11_ahead) (by assumption) (mX11_ahead ..) (fun p hp => by simp only [sX11_ahead, sX11_tunnelling, List.mem_cons, List.not_mem_nil, or_false] at hp ⊢ <;> omega) (fun _ _ => ?_)
    | refine zPr.bw (S' := sX11_blame) (by assumption) (mX11_blame ..) (fun p hp => by simp only [sX11_blame, sX11_tunnelling, List.mem_cons, List.not_mem_nil, or_false] at hp ⊢ <;> omega) (fun _ _ => ?_)
    | refine zPr.bc (S' := sX11_counts) (by assumption) (mX11_counts ..) (fun p hp => by simp only [sX11_counts, sX11_tunnelling, List.mem_cons, List.not_mem_nil, or_false] at hp ⊢ <;> omega) (fun _ _ _ => ?_)
    | refine zPr.bc (S' := sX11_fresh) (by assumption) (mX11_fresh ..) (fun p hp => by simp only [sX11_fresh, sX11_tunnelling, List.mem_cons, List.not_mem_nil, or_false] at hp ⊢ <;> omega) (fun _ _ _ => ?_)
    | refine zPr.bw (S' := sX11_lex) (by assumption) (mX11_lex ..) (fun p hp => by simp only [sX11_lex, sX11_tunnelling, List.mem_cons, List.not_mem_nil, or_false] at hp ⊢ <;> omega) (fun _ _ => ?_)
    | refine zPr.bc (S' := sX11_lookedAt) (by assumption) (mX11_lookedAt ..) (fun p hp => by simp only [sX11_lookedAt, sX11_tunnelling, List.mem_cons, List.not_mem_nil, or_false] at hp ⊢ <;> omega) (fun _ _ _ => ?_)
    | refine zPr.bw (S' := sX11_must_) (by assumption) (mX11_must_ ..) (fun p hp => by simp only [sX11_must_, sX11_tunnelling, List.mem_cons, List.not_mem_nil, or_false] at hp ⊢ <;> omega) (fun _ _ => ?_)
    | refine zPr.bc (S' := sX11_number) (by assumption) (mX11_number ..) (fun p hp => by simp only [sX11_number, sX11_tunnelling, List.mem_cons, List.not_mem_nil, or_false] at hp ⊢ <;> omega) (fun _ _ _ => ?_)
    | refine zPr.bnr (fun _ => ?_)
    | refine zPr.bnv (fun _ => ?_)
    | exact zPr.tail (S' := sX11_tunnelling) (by assumption) (hr102 ..) (fun _ h => h)
    | exact zPr.tail (S' := sX11_tunnelling) (by assumption) (mX11_tunnelling_288 _ (by first | assumption | exact ih | (intros; apply ih) | (intros; apply mX11_tunnelling_102)) ..) (fun _ h => h)
    | exact zPr.tail (S' := sX11_tunnelling) (by assumption) (mX11_tunnelling_284 _ (by first | assumption | exact ih | (intros; apply ih) | (intros; apply mX11_tunnelling_102)) ..) (fun _ h => h)
    | exact zPr.tail (S' := sX11_tunnelling) (by assumption) (mX11_tunnelling_263 _ (by first | assumption | exact ih | (intros; apply ih) | (intros; apply mX11_tunnelling_102)) ..) (fun _ h => h)
theorem mX11_tunnelling_237 (r102 : Int32 → Int32 → zS → Option zS) (hr102 : ∀ (x0 : Int32) (x1 : Int32) (σ : zS), zPr (sX11_tunnelling σ.2.2) σ id (r102 x0 x1 σ)) (x1 : Int32) (σ : zS) : zPr (sX11_tunnelling σ.2.2) σ id (fX11_tunnelling_237 r102 x1 σ) := by
  unfold fX11_tunnelling_237
  have hc := zSm.rfl (sX11_tunnelling σ.2.2) σ
  repeat' first
    | exact zPr.none
    | exact zPr.some (by assumption)
    | refine zPr.ite ?_ ?_
    | refine zPr.wI (by assumption) (by simp only [sX11_tunnelling, List.mem_cons, List.not_mem_nil, or_false]; omega) (fun _ _ => ?_)
    | refine zPr.wL (by assumption) (by simp only [sX11_tunnelling, List.mem_cons, List.not_mem_nil, or_false]; omega) (fun _ _ => ?_)
    | refine zPr.bI (by assumption) (by simp only [sX11_tunnelling, List.mem_cons, List.not_mem_nil, or_false]; omega) (fun _ _ => ?_)
    | refine zPr.bL (by assumption) (by simp only [sX11_tunnelling, List.mem_cons, List.not_mem_nil, or_false]; omega) (fun _ _ => ?_)
    | refine zPr.wC (by assumption) (by simp only [sX11_tunnelling, List.mem_cons, List.not_mem_nil, or_false]; omega) (fun _ _ => ?_)
    | refine zPr.aI (fun _ => ?_)
    | refine zPr.aL (fun _ => ?_)
    | refine zPr.gd ?_
    | refine zPr.bw (S' := sX11_ahead) (by assumption) (mX11_ahead ..) (fun p hp => by simp only [sX11_ahead, sX11_tunnelling, List.mem_cons, List.not_mem_nil, or_false] at hp ⊢ <;> omega) (fun _ _ => ?_)
    | refine zPr.bw (S' := sX11_blame) (by assumption) (mX11_blame ..) (fun p hp => by simp only [sX11_blame, sX11_tunnelling, List.mem_cons, List.not_mem_nil, or_false] at hp ⊢ <;> omega) (fun _ _ => ?_)
    | refine zPr.bc (S' := sX11_counts) (by assumption) (mX11_counts ..) (fun p hp => by simp only [sX11_counts, sX11_tunnelling, List.mem_cons, List.not_mem_nil, or_false] at hp ⊢ <;> omega) (fun _ _ _ => ?_)
    | refine zPr.bc (S' := sX11_fresh) (by assumption) (mX11_fresh ..) (fun p hp => by simp only [sX11_fresh, sX11_tunnelling, List.mem_cons, List.not_mem_nil, or_false] at hp ⊢ <;> omega) (fun _ _ _ => ?_)
    | refine zPr.bw (S' := sX11_lex) (by assumption) (mX11_lex ..) (fun p hp => by simp only [sX11_lex, sX11_tunnelling, List.mem_cons, List.not_mem_nil, or_false] at hp ⊢ <;> omega) (fun _ _ => ?_)
    | refine zPr.bc (S' := sX11_lookedAt) (by assumption) (mX11_lookedAt ..) (fun p hp => by simp only [sX11_lookedAt, sX11_tunnelling, List.mem_cons, List.not_mem_nil, or_false] at hp ⊢ <;> omega) (fun _ _ _ => ?_)
    | refine zPr.bw (S' := sX11_must_) (by assumption) (mX11_must_ ..) (fun p hp => by simp only [sX11_must_, sX11_tunnelling, List.mem_cons, List.not_mem_nil, or_false] at hp ⊢ <;> omega) (fun _ _ => ?_)
    | refine zPr.bc (S' := sX11_number) (by assumption) (mX11_number ..) (fun p hp => by simp only [sX11_number, sX11_tunnelling, List.mem_cons, List.not_mem_nil, or_false] at hp ⊢ <;> omega) (fun _ _ _ => ?_)
    | refine zPr.bnr (fun _ => ?_)
    | refine zPr.bnv (fun _ => ?_)
    | exact zPr.tail (S' := sX11_tunnelling) (by assumption) (hr102 ..) (fun _ h => h)
    | exact zPr.tail (S' := sX11_tunnelling) (by assumption) (mX11_tunnelling_288 _ (by first | assumption | exact ih | (intros; apply ih) | (intros; apply mX11_tunnelling_102)) ..) (fun _ h => h)
    | exact zPr.tail (S' := sX11_tunnelling) (by assumption) (mX11_tunnelling_284 _ (by first | assumption | exact ih | (intros; apply ih) | (intros; apply mX11_tunnelling_102)) ..) (fun _ h => h)
    | exact zPr.tail (S' := sX11_tunnelling) (by assumption) (mX11_tunnelling_263 _ (by first | assumption | exact ih | (intros; apply ih) | (intros; apply mX11_tunnelling_102)) ..) (fun _ h => h)
    | exact zPr.tail (S' := sX11_tunnelling) (by assumption) (mX11_tunnelling_262 _ (by first | assumption | exact ih | (intros; apply ih) | (intros; apply mX11_tunnelling_102)) ..) (fun _ h => h)
theorem mX11_tunnelling_180 (r102 : Int32 → Int32 → zS → Option zS) (hr102 : ∀ (x0 : Int32) (x1 : Int32) (σ : zS), zPr (sX11_tunnelling σ.2.2) σ id (r102 x0 x1 σ)) (x1 : Int32) (x3 : Int32) (x4 : Int32) (σ : zS) : zPr (sX11_tunnelling σ.2.2) σ id (fX11_tunnelling_180 r102 x1 x3 x4 σ) := by
  unfold fX11_tunnelling_180
  have hc := zSm.rfl (sX11_tunnelling σ.2.2) σ
  repeat' first
    | exact zPr.none
    | exact zPr.some (by assumption)
    | refine zPr.ite ?_ ?_
    | refine zPr.wI (by assumption) (by simp only [sX11_tunnelling, List.mem_cons, List.not_mem_nil, or_false]; omega) (fun _ _ => ?_)
    | refine zPr.wL (by assumption) (by simp only [sX11_tunnelling, List.mem_cons, List.not_mem_nil, or_false]; omega) (fun _ _ => ?_)
    | refine zPr.bI (by assumption) (by simp only [sX11_tunnelling, List.mem_cons, List.not_mem_nil, or_false]; omega) (fun _ _ => ?_)
    | refine zPr.bL (by assumption) (by simp only [sX11_tunnelling, List.mem_cons, List.not_mem_nil, or_false]; omega) (fun _ _ => ?_)
    | refine zPr.wC (by assumption) (by simp only [sX11_tunnelling, List.mem_cons, List.not_mem_nil, or_false]; omega) (fun _ _ => ?_)
    | refine zPr.aI (fun _ => ?_)
    | refine zPr.aL (fun _ => ?_)
    | refine zPr.gd ?_
    | refine zPr.bw (S' := sX11_ahead) (by assumption) (mX11_ahead ..) (fun p hp => by simp only [sX11_ahead, sX11_tunnelling, List.mem_cons, List.not_mem_nil, or_false] at hp ⊢ <;> omega) (fun _ _ => ?_)
    | refine zPr.bw (S' := sX11_blame) (by assumption) (mX11_blame ..) (fun p hp => by simp only [sX11_blame, sX11_tunnelling, List.mem_cons, List.not_mem_nil, or_false] at hp ⊢ <;> omega) (fun _ _ => ?_)
    | refine zPr.bc (S' := sX11_counts) (by assumption) (mX11_counts ..) (fun p hp => by simp only [sX11_counts, sX11_tunnelling, List.mem_cons, List.not_mem_nil, or_false] at hp ⊢ <;> omega) (fun _ _ _ => ?_)
    | refine zPr.bc (S' := sX11_fresh) (by assumption) (mX11_fresh ..) (fun p hp => by simp only [sX11_fresh, sX11_tunnelling, List.mem_cons, List.not_mem_nil, or_false] at hp ⊢ <;> omega) (fun _ _ _ => ?_)
    | refine zPr.bw (S' := sX11_lex) (by assumption) (mX11_lex ..) (fun p hp => by simp only [sX11_lex, sX11_tunnelling, List.mem_cons, List.not_mem_nil, or_false] at hp ⊢ <;> omega) (fun _ _ => ?_)
    | refine zPr.bc (S' := sX11_lookedAt) (by assumption) (mX11_lookedAt ..) (fun p hp => by simp only [sX11_lookedAt, sX11_tunnelling, List.mem_cons, List.not_mem_nil, or_false] at hp ⊢ <;> omega) (fun _ _ _ => ?_)
    | refine zPr.bw (S' := sX11_must_) (by assumption) (mX11_must_ ..) (fun p hp => by simp only [sX11_must_, sX11_tunnelling, List.mem_cons, List.not_mem_nil, or_false] at hp ⊢ <;> omega) (fun _ _ => ?_)
    | refine zPr.bc (S' := sX11_number) (by assumption) (mX11_number ..) (fun p hp => by simp only [sX11_number, sX11_tunnelling, List.mem_cons, List.not_mem_nil, or_false] at hp ⊢ <;> omega) (fun _ _ _ => ?_)
    | refine zPr.bnr (fun _ => ?_)
    | refine zPr.bnv (fun _ => ?_)
    | exact zPr.tail (S' := sX11_tunnelling) (by assumption) (hr102 ..) (fun _ h => h)
    | exact zPr.tail (S' := sX11_tunnelling) (by assumption) (mX11_tunnelling_288 _ (by first | assumption | exact ih | (intros; apply ih) | (intros; apply mX11_tunnelling_102)) ..) (fun _ h => h)
    | exact zPr.tail (S' := sX11_tunnelling) (by assumption) (mX11_tunnelling_284 _ (by first | assumption | exact ih | (intros; apply ih) | (intros; apply mX11_tunnelling_102)) ..) (fun _ h => h)
    | exact zPr.tail (S' := sX11_tunnelling) (by assumption) (mX11_tunnelling_263 _ (by first | assumption | exact ih | (intros; apply ih) | (intros; apply mX11_tunnelling_102)) ..) (fun _ h => h)
    | exact zPr.tail (S' := sX11_tunnelling) (by assumption) (mX11_tunnelling_262 _ (by first | assumption | exact ih | (intros; apply ih) | (intros; apply mX11_tunnelling_102)) ..) (fun _ h => h)
    | exact zPr.tail (S' := sX11_tunnelling) (by assumption) (mX11_tunnelling_237 _ (by first | assumption | exact ih | (intros; apply ih) | (intros; apply mX11_tunnelling_102)) ..) (fun _ h => h)
theorem mX11_tunnelling_169 (r102 : Int32 → Int32 → zS → Option zS) (hr102 : ∀ (x0 : Int32) (x1 : Int32) (σ : zS), zPr (sX11_tunnelling σ.2.2) σ id (r102 x0 x1 σ)) (x1 : Int32) (x3 : Int32) (x4 : Int32) (σ : zS) : zPr (sX11_tunnelling σ.2.2) σ id (fX11_tunnelling_169 r102 x1 x3 x4 σ) := by
  unfold fX11_tunnelling_169
  have hc := zSm.rfl (sX11_tunnelling σ.2.2) σ
  repeat' first
    | exact zPr.none
    | exact zPr.some (by assumption)
    | refine zPr.ite ?_ ?_
    | refine zPr.wI (by assumption) (by simp only [sX11_tunnelling, List.mem_cons, List.not_mem_nil, or_false]; omega) (fun _ _ => ?_)
    | refine zPr.wL (by assumption) (by simp only [sX11_tunnelling, List.mem_cons, List.not_mem_nil, or_false]; omega) (fun _ _ => ?_)
    | refine zPr.bI (by assumption) (by simp only [sX11_tunnelling, List.mem_cons, List.not_mem_nil, or_false]; omega) (fun _ _ => ?_)
    | refine zPr.bL (by assumption) (by simp only [sX11_tunnelling, List.mem_cons, List.not_mem_nil, or_false]; omega) (fun _ _ => ?_)
    | refine zPr.wC (by assumption) (by simp only [sX11_tunnelling, List.mem_cons, List.not_mem_nil, or_false]; omega) (fun _ _ => ?_)
    | refine zPr.aI (fun _ => ?_)
    | refine zPr.aL (fun _ => ?_)
    | refine zPr.gd ?_
    | refine zPr.bw (S' := sX11_ahead) (by assumption) (mX11_ahead ..) (fun p hp => by simp only [sX11_ahead, sX11_tunnelling, List.mem_cons, List.not_mem_nil, or_false] at hp ⊢ <;> omega) (fun _ _ => ?_)
    | refine zPr.bw (S' := sX11_blame) (by assumption) (mX11_blame ..) (fun p hp => by simp only [sX11_blame, sX11_tunnelling, List.mem_cons, List.not_mem_nil, or_false] at hp ⊢ <;> omega) (fun _ _ => ?_)
    | refine zPr.bc (S' := sX11_counts) (by assumption) (mX11_counts ..) (fun p hp => by simp only [sX11_counts, sX11_tunnelling, List.mem_cons, List.not_mem_nil, or_false] at hp ⊢ <;> omega) (fun _ _ _ => ?_)
    | refine zPr.bc (S' := sX11_fresh) (by assumption) (mX11_fresh ..) (fun p hp => by simp only [sX11_fresh, sX11_tunnelling, List.mem_cons, List.not_mem_nil, or_false] at hp ⊢ <;> omega) (fun _ _ _ => ?_)
    | refine zPr.bw (S' := sX11_lex) (by assumption) (mX11_lex ..) (fun p hp => by simp only [sX11_lex, sX11_tunnelling, List.mem_cons, List.not_mem_nil, or_false] at hp ⊢ <;> omega) (fun _ _ => ?_)
    | refine zPr.bc (S' := sX11_lookedAt) (by assumption) (mX11_lookedAt ..) (fun p hp => by simp only [sX11_lookedAt, sX11_tunnelling, List.mem_cons, List.not_mem_nil, or_false] at hp ⊢ <;> omega) (fun _ _ _ => ?_)
    | refine zPr.bw (S' := sX11_must_) (by assumption) (mX11_must_ ..) (fun p hp => by simp only [sX11_must_, sX11_tunnelling, List.mem_cons, List.not_mem_nil, or_false] at hp ⊢ <;> omega) (fun _ _ => ?_)
    | refine zPr.bc (S' := sX11_number) (by assumption) (mX11_number ..) (fun p hp => by simp only [sX11_number, sX11_tunnelling, List.mem_cons, List.not_mem_nil, or_false] at hp ⊢ <;> omega) (fun _ _ _ => ?_)
    | refine zPr.bnr (fun _ => ?_)
    | refine zPr.bnv (fun _ => ?_)
    | exact zPr.tail (S' := sX11_tunnelling) (by assumption) (hr102 ..) (fun _ h => h)
    | exact zPr.tail (S' := sX11_tunnelling) (by assumption) (mX11_tunnelling_288 _ (by first | assumption | exact ih | (intros; apply ih) | (intros; apply mX11_tunnelling_102)) ..) (fun _ h => h)
    | exact zPr.tail (S' := sX11_tunnelling) (by assumption) (mX11_tunnelling_284 _ (by first | assumption | exact ih | (intros; apply ih) | (intros; apply mX11_tunnelling_102)) ..) (fun _ h => h)
    | exact zPr.tail (S' := sX11_tunnelling) (by assumption) (mX11_tunnelling_263 _ (by first | assumption | exact ih | (intros; apply ih) | (intros; apply mX11_tunnelling_102)) ..) (fun _ h => h)
    | exact zPr.tail (S' := sX11_tunnelling) (by assumption) (mX11_tunnelling_262 _ (by first | assumption | exact ih | (intros; apply ih) | (intros; apply mX11_tunnelling_102)) ..) (fun _ h => h)
    | exact zPr.tail (S' := sX11_tunnelling) (by assumption) (mX11_tunnelling_237 _ (by first | assumption | exact ih | (intros; apply ih) | (intros; apply mX11_tunnelling_102)) ..) (fun _ h => h)
    | exact zPr.tail (S' := sX11_tunnelling) (by assumption) (mX11_tunnelling_180 _ (by first | assumption | exact ih | (intros; apply ih) | (intros; apply mX11_tunnelling_102)) ..) (fun _ h => h)
theorem mX11_tunnelling_163 (r102 : Int32 → Int32 → zS → Option zS) (r125 : Int32 → Int32 → Int32 → Int32 → zS → Option zS) (hr102 : ∀ (x0 : Int32) (x1 : Int32) (σ : zS), zPr (sX11_tunnelling σ.2.2) σ id (r102 x0 x1 σ)) (hr125 : ∀ (x0 : Int32) (x1 : Int32) (x2 : Int32) (x3 : Int32) (σ : zS), zPr (sX11_tunnelling σ.2.2) σ id (r125 x0 x1 x2 x3 σ)) (x1 : Int32) (x3 : Int32) (x4 : Int32) (x5 : Int32) (σ : zS) : zPr (sX11_tunnelling σ.2.2) σ id (fX11_tunnelling_163 r102 r125 x1 x3 x4 x5 σ) := by
  unfold fX11_tunnelling_163
  have hc := zSm.rfl (sX11_tunnelling σ.2.2) σ
  repeat' first
    | exact zPr.none
    | exact zPr.some (by assumption)
    | refine zPr.ite ?_ ?_
    | refine zPr.wI (by assumption) (by simp only [sX11_tunnelling, List.mem_cons, List.not_mem_nil, or_false]; omega) (fun _ _ => ?_)
    | refine zPr.wL (by assumption) (by simp only [sX11_tunnelling, List.mem_cons, List.not_mem_nil, or_false]; omega) (fun _ _ => ?_)
    | refine zPr.bI (by assumption) (by simp only [sX11_tunnelling, List.mem_cons, List.not_mem_nil, or_false]; omega) (fun _ _ => ?_)
    | refine zPr.bL (by assumption) (by simp only [sX11_tunnelling, List.mem_cons, List.not_mem_nil, or_false]; omega) (fun _ _ => ?_)
    | refine zPr.wC (by assumption) (by simp only [sX11_tunnelling, List.mem_cons, List.not_mem_nil, or_false]; omega) (fun _ _ => ?_)
    | refine zPr.aI (fun _ => ?_)
    | refine zPr.aL (fun _ => ?_)
    | refine zPr.gd ?_
    | refine zPr.bw (S' := sX11_ahead) (by assumption) (mX11_ahead ..) (fun p hp => by simp only [sX11_ahead, sX11_tunnelling, List.mem_cons, List.not_mem_nil, or_false] at hp ⊢ <;> omega) (fun _ _ => ?_)
    | refine zPr.bw (S' := sX11_blame) (by assumption) (mX11_blame ..) (fun p hp => by simp only [sX11_blame, sX11_tunnelling, List.mem_cons, List.not_mem_nil, or_false] at hp ⊢ <;> omega) (fun _ _ => ?_)
    | refine zPr.bc (S' := sX11_counts) (by assumption) (mX11_counts ..) (fun p hp => by simp only [sX11_counts, sX11_tunnelling, List.mem_cons, List.not_mem_nil, or_false] at hp ⊢ <;> omega) (fun _ _ _ => ?_)
    | refine zPr.bc (S' := sX11_fresh) (by assumption) (mX11_fresh ..) (fun p hp => by simp only [sX11_fresh, sX11_tunnelling, List.mem_cons, List.not_mem_nil, or_false] at hp ⊢ <;> omega) (fun _ _ _ => ?_)
    | refine zPr.bw (S' := sX11_lex) (by assumption) (mX11_lex ..) (fun p hp => by simp only [sX11_lex, sX11_tunnelling, List.mem_cons, List.not_mem_nil, or_false] at hp ⊢ <;> omega) (fun _ _ => ?_)
    | refine zPr.bc (S' := sX11_lookedAt) (by assumption) (mX11_lookedAt ..) (fun p hp => by simp only [sX11_lookedAt, sX11_tunnelling, List.mem_cons, List.not_mem_nil, or_false] at hp ⊢ <;> omega) (fun _ _ _ => ?_)
    | refine zPr.bw (S' := sX11_must_) (by assumption) (mX11_must_ ..) (fun p hp => by simp only [sX11_must_, sX11_tunnelling, List.mem_cons, List.not_mem_nil, or_false] at hp ⊢ <;> omega) (fun _ _ => ?_)
    | refine zPr.bc (S' := sX11_number) (by assumption) (mX11_number ..) (fun p hp => by simp only [sX11_number, sX11_tunnelling, List.mem_cons, List.not_mem_nil, or_false] at hp ⊢ <;> omega) (fun _ _ _ => ?_)
    | refine zPr.bnr (fun _ => ?_)
    | refine zPr.bnv (fun _ => ?_)
    | exact zPr.tail (S' := sX11_tunnelling) (by assumption) (hr102 ..) (fun _ h => h)
    | exact zPr.tail (S' := sX11_tunnelling) (by assumption) (hr125 ..) (fun _ h => h)
    | exact zPr.tail (S' := sX11_tunnelling) (by assumption) (mX11_tunnelling_288 _ (by first | assumption | exact ih | (intros; apply ih) | (intros; apply mX11_tunnelling_102)) ..) (fun _ h => h)
    | exact zPr.tail (S' := sX11_tunnelling) (by assumption) (mX11_tunnelling_284 _ (by first | assumption | exact ih | (intros; apply ih) | (intros; apply mX11_tunnelling_102)) ..) (fun _ h => h)
    | exact zPr.tail (S' := sX11_tunnelling) (by assumption) (mX11_tunnelling_263 _ (by first | assumption | exact ih | (intros; apply ih) | (intros; apply mX11_tunnelling_102)) ..) (fun _ h => h)
    | exact zPr.tail (S' := sX11_tunnelling) (by assumption) (mX11_tunnelling_262 _ (by first | assumption | exact ih | (intros; apply ih) | (intros; apply mX11_tunnelling_102)) ..) (fun _ h => h)
    | exact zPr.tail (S' := sX11_tunnelling) (by assumption) (mX11_tunnelling_237 _ (by first | assumption | exact ih | (intros; apply ih) | (intros; apply mX11_tunnelling_102)) ..) (fun _ h => h)
    | exact zPr.tail (S' := sX11_tunnelling) (by assumption) (mX11_tunnelling_180 _ (by first | assumption | exact ih | (intros; apply ih) | (intros; apply mX11_tunnelling_102)) ..) (fun _ h => h)
    | exact zPr.tail (S' := sX11_tunnelling) (by assumption) (mX11_tunnelling_169 _ (by first | assumption | exact ih | (intros; apply ih) | (intros; apply mX11_tunnelling_102)) ..) (fun _ h => h)
theorem mX11_tunnelling_125 (r102 : Int32 → Int32 → zS → Option zS) (hr102 : ∀ (x0 : Int32) (x1 : Int32) (σ : zS), zPr (sX11_tunnelling σ.2.2) σ id (r102 x0 x1 σ)) : ∀ (fuel : Nat) (x1 : Int32) (x3 : Int32) (x4 : Int32) (x5 : Int32) (σ : zS), zPr (sX11_tunnelling σ.2.2) σ id (fX11_tunnelling_125 r102 fuel x1 x3 x4 x5 σ) := by
  intro fuel
  induction fuel with
  | zero => intro x1 x3 x4 x5 σ; exact zPr.none
  | succ f ih =>
    intro x1 x3 x4 x5 σ
    rw [fX11_tunnelling_125]
    have hc := zSm.rfl (sX11_tunnelling σ.2.2) σ
    repeat' first
      | exact zPr.none
      | exact zPr.some (by assumption)
      | refine zPr.ite ?_ ?_
      | refine zPr.wI (by assumption) (by simp only [sX11_tunnelling, List.mem_cons, List.not_mem_nil, or_false]; omega) (fun _ _ => ?_)
      | refine zPr.wL (by assumption) (by simp only [sX11_tunnelling, List.mem_cons, List.not_mem_nil, or_false]; omega) (fun _ _ => ?_)
      | refine zPr.bI (by assumption) (by simp only [sX11_tunnelling, List.mem_cons, List.not_mem_nil, or_false]; omega) (fun _ _ => ?_)
      | refine zPr.bL (by assumption) (by simp only [sX11_tunnelling, List.mem_cons, List.not_mem_nil, or_false]; omega) (fun _ _ => ?_)
      | refine zPr.wC (by assumption) (by simp only [sX11_tunnelling, List.mem_cons, List.not_mem_nil, or_false]; omega) (fun _ _ => ?_)
      | refine zPr.aI (fun _ => ?_)
      | refine zPr.aL (fun _ => ?_)
      | refine zPr.gd ?_
      | refine zPr.bw (S' := sX11_ahead) (by assumption) (mX11_ahead ..) (fun p hp => by simp only [sX11_ahead, sX11_tunnelling, List.mem_cons, List.not_mem_nil, or_false] at hp ⊢ <;> omega) (fun _ _ => ?_)
      | refine zPr.bw (S' := sX11_blame) (by assumption) (mX11_blame ..) (fun p hp => by simp only [sX11_blame, sX11_tunnelling, List.mem_cons, List.not_mem_nil, or_false] at hp ⊢ <;> omega) (fun _ _ => ?_)
      | refine zPr.bc (S' := sX11_counts) (by assumption) (mX11_counts ..) (fun p hp => by simp only [sX11_counts, sX11_tunnelling, List.mem_cons, List.not_mem_nil, or_false] at hp ⊢ <;> omega) (fun _ _ _ => ?_)
      | refine zPr.bc (S' := sX11_fresh) (by assumption) (mX11_fresh ..) (fun p hp => by simp only [sX11_fresh, sX11_tunnelling, List.mem_cons, List.not_mem_nil, or_false] at hp ⊢ <;> omega) (fun _ _ _ => ?_)
      | refine zPr.bw (S' := sX11_lex) (by assumption) (mX11_lex ..) (fun p hp => by simp only [sX11_lex, sX11_tunnelling, List.mem_cons, List.not_mem_nil, or_false] at hp ⊢ <;> omega) (fun _ _ => ?_)
      | refine zPr.bc (S' := sX11_lookedAt) (by assumption) (mX11_lookedAt ..) (fun p hp => by simp only [sX11_lookedAt, sX11_tunnelling, List.mem_cons, List.not_mem_nil, or_false] at hp ⊢ <;> omega) (fun _ _ _ => ?_)
      | refine zPr.bw (S' := sX11_must_) (by assumption) (mX11_must_ ..) (fun p hp => by simp only [sX11_must_, sX11_tunnelling, List.mem_cons, List.not_mem_nil, or_false] at hp ⊢ <;> omega) (fun _ _ => ?_)
      | refine zPr.bc (S' := sX11_number) (by assumption) (mX11_number ..) (fun p hp => by simp only [sX11_number, sX11_tunnelling, List.mem_cons, List.not_mem_nil, or_false] at hp ⊢ <;> omega) (fun _ _ _ => ?_)
      | refine zPr.bnr (fun _ => ?_)
      | refine zPr.bnv (fun _ => ?_)
      | exact zPr.tail (S' := sX11_tunnelling) (by assumption) (ih ..) (fun _ h => h)
      | exact zPr.tail (S' := sX11_tunnelling) (by assumption) (hr102 ..) (fun _ h => h)
      | exact zPr.tail (S' := sX11_tunnelling) (by assumption) (mX11_tunnelling_288 _ (by first | assumption | exact ih | (intros; apply ih) | (intros; apply mX11_tunnelling_102)) ..) (fun _ h => h)
      | exact zPr.tail (S' := sX11_tunnelling) (by assumption) (mX11_tunnelling_284 _ (by first | assumption | exact ih | (intros; apply ih) | (intros; apply mX11_tunnelling_102)) ..) (fun _ h => h)
      | exact zPr.tail (S' := sX11_tunnelling) (by assumption) (mX11_tunnelling_263 _ (by first | assumption | exact ih | (intros; apply ih) | (intros; apply mX11_tunnelling_102)) ..) (fun _ h => h)
      | exact zPr.tail (S' := sX11_tunnelling) (by assumption) (mX11_tunnelling_262 _ (by first | assumption | exact ih | (intros; apply ih) | (intros; apply mX11_tunnelling_102)) ..) (fun _ h => h)
      | exact zPr.tail (S' := sX11_tunnelling) (by assumption) (mX11_tunnelling_237 _ (by first | assumption | exact ih | (intros; apply ih) | (intros; apply mX11_tunnelling_102)) ..) (fun _ h => h)
      | exact zPr.tail (S' := sX11_tunnelling) (by assumption) (mX11_tunnelling_180 _ (by first | assumption | exact ih | (intros; apply ih) | (intros; apply mX11_tunnelling_102)) ..) (fun _ h => h)
      | exact zPr.tail (S' := sX11_tunnelling) (by assumption) (mX11_tunnelling_169 _ (by first | assumption | exact ih | (intros; apply ih) | (intros; apply mX11_tunnelling_102)) ..) (fun _ h => h)
      | exact zPr.tail (S' := sX11_tunnelling) (by assumption) (mX11_tunnelling_163 _ _ (by first | assumption | exact ih | (intros; apply ih) | (intros; apply mX11_tunnelling_102)) (by first | assumption | exact ih | (intros; apply ih) | (intros; apply mX11_tunnelling_125)) ..) (fun _ h => h)
theorem mX11_tunnelling_102 : ∀ (fuel : Nat) (x1 : Int32) (x2 : Int32) (σ : zS), zPr (sX11_tunnelling σ.2.2) σ id (fX11_tunnelling_102 fuel x1 x2 σ) := by
  intro fuel
  induction fuel with
  | zero => intro x1 x2 σ; exact zPr.none
  | succ f ih =>
    intro x1 x2 σ
    rw [fX11_tunnelling_102]
    have hc := zSm.rfl (sX11_tunnelling σ.2.2) σ
    repeat' first
      | exact zPr.none
      | exact zPr.some (by assumption)
      | refine zPr.ite ?_ ?_
      | refine zPr.wI (by assumption) (by simp only [sX11_tunnelling, List.mem_cons, List.not_mem_nil, or_false]; omega) (fun _ _ => ?_)
      | refine zPr.wL (by assumption) (by simp only [sX11_tunnelling, List.mem_cons, List.not_mem_nil, or_false]; omega) (fun _ _ => ?_)
      | refine zPr.bI (by assumption) (by simp only [sX11_tunnelling, List.mem_cons, List.not_mem_nil, or_false]; omega) (fun _ _ => ?_)
      | refine zPr.bL (by assumption) (by simp only [sX11_tunnelling, List.mem_cons, List.not_mem_nil, or_false]; omega) (fun _ _ => ?_)
      | refine zPr.wC (by assumption) (by simp only [sX11_tunnelling, List.mem_cons, List.not_mem_nil, or_false]; omega) (fun _ _ => ?_)
      | refine zPr.aI (fun _ => ?_)
      | refine zPr.aL (fun _ => ?_)
      | refine zPr.gd ?_
      | refine zPr.bw (S' := sX11_ahead) (by assumption) (mX11_ahead ..) (fun p hp => by simp only [sX11_ahead, sX11_tunnelling, List.mem_cons, List.not_mem_nil, or_false] at hp ⊢ <;> omega) (fun _ _ => ?_)
      | refine zPr.bw (S' := sX11_blame) (by assumption) (mX11_blame ..) (fun p hp => by simp only [sX11_blame, sX11_tunnelling, List.mem_cons, List.not_mem_nil, or_false] at hp ⊢ <;> omega) (fun _ _ => ?_)
      | refine zPr.bc (S' := sX11_counts) (by assumption) (mX11_counts ..) (fun p hp => by simp only [sX11_counts, sX11_tunnelling, List.mem_cons, List.not_mem_nil, or_false] at hp ⊢ <;> omega) (fun _ _ _ => ?_)
      | refine zPr.bc (S' := sX11_fresh) (by assumption) (mX11_fresh ..) (fun p hp => by simp only [sX11_fresh, sX11_tunnelling, List.mem_cons, List.not_mem_nil, or_false] at hp ⊢ <;> omega) (fun _ _ _ => ?_)
      | refine zPr.bw (S' := sX11_lex) (by assumption) (mX11_lex ..) (fun p hp => by simp only [sX11_lex, sX11_tunnelling, List.mem_cons, List.not_mem_nil, or_false] at hp ⊢ <;> omega) (fun _ _ => ?_)
      | refine zPr.bc (S' := sX11_lookedAt) (by assumption) (mX11_lookedAt ..) (fun p hp => by simp only [sX11_lookedAt, sX11_tunnelling, List.mem_cons, List.not_mem_nil, or_false] at hp ⊢ <;> omega) (fun _ _ _ => ?_)
      | refine zPr.bw (S' := sX11_must_) (by assumption) (mX11_must_ ..) (fun p hp => by simp only [sX11_must_, sX11_tunnelling, List.mem_cons, List.not_mem_nil, or_false] at hp ⊢ <;> omega) (fun _ _ => ?_)
      | refine zPr.bc (S' := sX11_number) (by assumption) (mX11_number ..) (fun p hp => by simp only [sX11_number, sX11_tunnelling, List.mem_cons, List.not_mem_nil, or_false] at hp ⊢ <;> omega) (fun _ _ _ => ?_)
      | refine zPr.bnr (fun _ => ?_)
      | refine zPr.bnv (fun _ => ?_)
      | exact zPr.tail (S' := sX11_tunnelling) (by assumption) (ih ..) (fun _ h => h)
      | exact zPr.tail (S' := sX11_tunnelling) (by assumption) (mX11_tunnelling_288 _ (by first | assumption | exact ih | (intros; apply ih) | (intros; apply mX11_tunnelling_102)) ..) (fun _ h => h)
      | exact zPr.tail (S' := sX11_tunnelling) (by assumption) (mX11_tunnelling_284 _ (by first | assumption | exact ih | (intros; apply ih) | (intros; apply mX11_tunnelling_102)) ..) (fun _ h => h)
      | exact zPr.tail (S' := sX11_tunnelling) (by assumption) (mX11_tunnelling_263 _ (by first | assumption | exact ih | (intros; apply ih) | (intros; apply mX11_tunnelling_102)) ..) (fun _ h => h)
      | exact zPr.tail (S' := sX11_tunnelling) (by assumption) (mX11_tunnelling_262 _ (by first | assumption | exact ih | (intros; apply ih) | (intros; apply mX11_tunnelling_102)) ..) (fun _ h => h)
      | exact zPr.tail (S' := sX11_tunnelling) (by assumption) (mX11_tunnelling_237 _ (by first | assumption | exact ih | (intros; apply ih) | (intros; apply mX11_tunnelling_102)) ..) (fun _ h => h)
      | exact zPr.tail (S' := sX11_tunnelling) (by assumption) (mX11_tunnelling_180 _ (by first | assumption | exact ih | (intros; apply ih) | (intros; apply mX11_tunnelling_102)) ..) (fun _ h => h)
      | exact zPr.tail (S' := sX11_tunnelling) (by assumption) (mX11_tunnelling_169 _ (by first | assumption | exact ih | (intros; apply ih) | (intros; apply mX11_tunnelling_102)) ..) (fun _ h => h)
      | exact zPr.tail (S' := sX11_tunnelling) (by assumption) (mX11_tunnelling_163 _ _ (by first | assumption | exact ih | (intros; apply ih) | (intros; apply mX11_tunnelling_102)) (by first | assumption | exact ih | (intros; apply ih) | (intros; apply mX11_tunnelling_125)) ..) (fun _ h => h)
      | exact zPr.tail (S' := sX11_tunnelling) (by assumption) (mX11_tunnelling_125 _ (by first | assumption | exact ih | (intros; apply ih) | (intros; apply mX11_tunnelling_102)) ..) (fun _ h => h)
theorem mX11_tunnelling_101 (x1 : Int32) (s0 : Int32) (σ : zS) : zPr (sX11_tunnelling σ.2.2) σ id (fX11_tunnelling_101 x1 s0 σ) := by
  unfold fX11_tunnelling_101
  have hc := zSm.rfl (sX11_tunnelling σ.2.2) σ
  repeat' first
    | exact zPr.none
    | exact zPr.some (by assumption)
    | refine zPr.ite ?_ ?_
    | refine zPr.wI (by assumption) (by simp only [sX11_tunnelling, List.mem_cons, List.not_mem_nil, or_false]; omega) (fun _ _ => ?_)
    | refine zPr.wL (by assumption) (by simp only [sX11_tunnelling, List.mem_cons, List.not_mem_nil, or_false]; omega) (fun _ _ => ?_)
    | refine zPr.bI (by assumption) (by simp only [sX11_tunnelling, List.mem_cons, List.not_mem_nil, or_false]; omega) (fun _ _ => ?_)
    | refine zPr.bL (by assumption) (by simp only [sX11_tunnelling, List.mem_cons, List.not_mem_nil, or_false]; omega) (fun _ _ => ?_)
    | refine zPr.wC (by assumption) (by simp only [sX11_tunnelling, List.mem_cons, List.not_mem_nil, or_false]; omega) (fun _ _ => ?_)
    | refine zPr.aI (fun _ => ?_)
    | refine zPr.aL (fun _ => ?_)
    | refine zPr.gd ?_
    | refine zPr.bw (S' := sX11_ahead) (by assumption) (mX11_ahead ..) (fun p hp => by simp only [sX11_ahead, sX11_tunnelling, List.mem_cons, List.not_mem_nil, or_false] at hp ⊢ <;> omega) (fun _ _ => ?_)
    | refine zPr.bw (S' := sX11_blame) (by assumption) (mX11_blame ..) (fun p hp => by simp only [sX11_blame, sX11_tunnelling, List.mem_cons, List.not_mem_nil, or_false] at hp ⊢ <;> omega) (fun _ _ => ?_)
    | refine zPr.bc (S' := sX11_counts) (by assumption) (mX11_counts ..) (fun p hp => by simp only [sX11_counts, sX11_tunnelling, List.mem_cons, List.not_mem_nil, or_false] at hp ⊢ <;> omega) (fun _ _ _ => ?_)
    | refine zPr.bc (S' := sX11_fresh) (by assumption) (mX11_fresh ..) (fun p hp => by simp only [sX11_fresh, sX11_tunnelling, List.mem_cons, List.not_mem_nil, or_false] at hp ⊢ <;> omega) (fun _ _ _ => ?_)
    | refine zPr.bw (S' := sX11_lex) (by assumption) (mX11_lex ..) (fun p hp => by simp only [sX11_lex, sX11_tunnelling, List.mem_cons, List.not_mem_nil, or_false] at hp ⊢ <;> omega) (fun _ _ => ?_)
    | refine zPr.bc (S' := sX11_lookedAt) (by assumption) (mX11_lookedAt ..) (fun p hp => by simp only [sX11_lookedAt, sX11_tunnelling, List.mem_cons, List.not_mem_nil, or_false] at hp ⊢ <;> omega) (fun _ _ _ => ?_)
    | refine zPr.bw (S' := sX11_must_) (by assumption) (mX11_must_ ..) (fun p hp => by simp only [sX11_must_, sX11_tunnelling, List.mem_cons, List.not_mem_nil, or_false] at hp ⊢ <;> omega) (fun _ _ => ?_)
    | refine zPr.bc (S' := sX11_number) (by assumption) (mX11_number ..) (fun p hp => by simp only [sX11_number, sX11_tunnelling, List.mem_cons, List.not_mem_nil, or_false] at hp ⊢ <;> omega) (fun _ _ _ => ?_)
    | refine zPr.bnr (fun _ => ?_)
    | refine zPr.bnv (fun _ => ?_)
    | exact zPr.tail (S' := sX11_tunnelling) (by assumption) (mX11_tunnelling_288 _ (by first | assumption | exact ih | (intros; apply ih) | (intros; apply mX11_tunnelling_102)) ..) (fun _ h => h)
    | exact zPr.tail (S' := sX11_tunnelling) (by assumption) (mX11_tunnelling_284 _ (by first | assumption | exact ih | (intros; apply ih) | (intros; apply mX11_tunnelling_102)) ..) (fun _ h => h)
    | exact zPr.tail (S' := sX11_tunnelling) (by assumption) (mX11_tunnelling_263 _ (by first | assumption | exact ih | (intros; apply ih) | (intros; apply mX11_tunnelling_102)) ..) (fun _ h => h)
    | exact zPr.tail (S' := sX11_tunnelling) (by assumption) (mX11_tunnelling_262 _ (by first | assumption | exact ih | (intros; apply ih) | (intros; apply mX11_tunnelling_102)) ..) (fun _ h => h)
    | exact zPr.tail (S' := sX11_tunnelling) (by assumption) (mX11_tunnelling_237 _ (by first | assumption | exact ih | (intros; apply ih) | (intros; apply mX11_tunnelling_102)) ..) (fun _ h => h)
    | exact zPr.tail (S' := sX11_tunnelling) (by assumption) (mX11_tunnelling_180 _ (by first | assumption | exact ih | (intros; apply ih) | (intros; apply mX11_tunnelling_102)) ..) (fun _ h => h)
    | exact zPr.tail (S' := sX11_tunnelling) (by assumption) (mX11_tunnelling_169 _ (by first | assumption | exact ih | (intros; apply ih) | (intros; apply mX11_tunnelling_102)) ..) (fun _ h => h)
    | exact zPr.tail (S' := sX11_tunnelling) (by assumption) (mX11_tunnelling_163 _ _ (by first | assumption | exact ih | (intros; apply ih) | (intros; apply mX11_tunnelling_102)) (by first | assumption | exact ih | (intros; apply ih) | (intros; apply mX11_tunnelling_125)) ..) (fun _ h => h)
    | exact zPr.tail (S' := sX11_tunnelling) (by assumption) (mX11_tunnelling_125 _ (by first | assumption | exact ih | (intros; apply ih) | (intros; apply mX11_tunnelling_102)) ..) (fun _ h => h)
    | exact zPr.tail (S' := sX11_tunnelling) (by assumption) (mX11_tunnelling_102 ..) (fun _ h => h)
theorem mX11_tunnelling_20 (s0 : Int32) (σ : zS) : zPr (sX11_tunnelling σ.2.2) σ id (fX11_tunnelling_20 s0 σ) := by
  unfold fX11_tunnelling_20
  have hc := zSm.rfl (sX11_tunnelling σ.2.2) σ
  repeat' first
    | exact zPr.none
    | exact zPr.some (by assumption)
    | refine zPr.ite ?_ ?_
    | refine zPr.wI (by assumption) (by simp only [sX11_tunnelling, List.mem_cons, List.not_mem_nil, or_false]; omega) (fun _ _ => ?_)
    | refine zPr.wL (by assumption) (by simp only [sX11_tunnelling, List.mem_cons, List.not_mem_nil, or_false]; omega) (fun _ _ => ?_)
    | refine zPr.bI (by assumption) (by simp only [sX11_tunnelling, List.mem_cons, List.not_mem_nil, or_false]; omega) (fun _ _ => ?_)
    | refine zPr.bL (by assumption) (by simp only [sX11_tunnelling, List.mem_cons, List.not_mem_nil, or_false]; omega) (fun _ _ => ?_)
    | refine zPr.wC (by assumption) (by simp only [sX11_tunnelling, List.mem_cons, List.not_mem_nil, or_false]; omega) (fun _ _ => ?_)
    | refine zPr.aI (fun _ => ?_)
    | refine zPr.aL (fun _ => ?_)
    | refine zPr.gd ?_
    | refine zPr.bw (S' := sX11_ahead) (by assumption) (mX11_ahead ..) (fun p hp => by simp only [sX11_ahead, sX11_tunnelling, List.mem_cons, List.not_mem_nil, or_false] at hp ⊢ <;> omega) (fun _ _ => ?_)
    | refine zPr.bw (S' := sX11_blame) (by assumption) (mX11_blame ..) (fun p hp => by simp only [sX11_blame, sX11_tunnelling, List.mem_cons, List.not_mem_nil, or_false] at hp ⊢ <;> omega) (fun _ _ => ?_)
    | refine zPr.bc (S' := sX11_counts) (by assumption) (mX11_counts ..) (fun p hp => by simp only [sX11_counts, sX11_tunnelling, List.mem_cons, List.not_mem_nil, or_false] at hp ⊢ <;> omega) (fun _ _ _ => ?_)
    | refine zPr.bc (S' := sX11_fresh) (by assumption) (mX11_fresh ..) (fun p hp => by simp only [sX11_fresh, sX11_tunnelling, List.mem_cons, List.not_mem_nil, or_false] at hp ⊢ <;> omega) (fun _ _ _ => ?_)
    | refine zPr.bw (S' := sX11_lex) (by assumption) (mX11_lex ..) (fun p hp => by simp only [sX11_lex, sX11_tunnelling, List.mem_cons, List.not_mem_nil, or_false] at hp ⊢ <;> omega) (fun _ _ => ?_)
    | refine zPr.bc (S' := sX11_lookedAt) (by assumption) (mX11_lookedAt ..) (fun p hp => by simp only [sX11_lookedAt, sX11_tunnelling, List.mem_cons, List.not_mem_nil, or_false] at hp ⊢ <;> omega) (fun _ _ _ => ?_)
    | refine zPr.bw (S' := sX11_must_) (by assumption) (mX11_must_ ..) (fun p hp => by simp only [sX11_must_, sX11_tunnelling, List.mem_cons, List.not_mem_nil, or_false] at hp ⊢ <;> omega) (fun _ _ => ?_)
    | refine zPr.bc (S' := sX11_number) (by assumption) (mX11_number ..) (fun p hp => by simp only [sX11_number, sX11_tunnelling, List.mem_cons, List.not_mem_nil, or_false] at hp ⊢ <;> omega) (fun _ _ _ => ?_)
    | refine zPr.bnr (fun _ => ?_)
    | refine zPr.bnv (fun _ => ?_)
    | exact zPr.tail (S' := sX11_tunnelling) (by assumption) (mX11_tunnelling_288 _ (by first | assumption | exact ih | (intros; apply ih) | (intros; apply mX11_tunnelling_102)) ..) (fun _ h => h)
    | exact zPr.tail (S' := sX11_tunnelling) (by assumption) (mX11_tunnelling_284 _ (by first | assumption | exact ih | (intros; apply ih) | (intros; apply mX11_tunnelling_102)) ..) (fun _ h => h)
    | exact zPr.tail (S' := sX11_tunnelling) (by assumption) (mX11_tunnelling_263 _ (by first | assumption | exact ih | (intros; apply ih) | (intros; apply mX11_tunnelling_102)) ..) (fun _ h => h)
    | exact zPr.tail (S' := sX11_tunnelling) (by assumption) (mX11_tunnelling_262 _ (by first | assumption | exact ih | (intros; apply ih) | (intros; apply mX11_tunnelling_102)) ..) (fun _ h => h)
    | exact zPr.tail (S' := sX11_tunnelling) (by assumption) (mX11_tunnelling_237 _ (by first | assumption | exact ih | (intros; apply ih) | (intros; apply mX11_tunnelling_102)) ..) (fun _ h => h)
    | exact zPr.tail (S' := sX11_tunnelling) (by assumption) (mX11_tunnelling_180 _ (by first | assumption | exact ih | (intros; apply ih) | (intros; apply mX11_tunnelling_102)) ..) (fun _ h => h)
    | exact zPr.tail (S' := sX11_tunnelling) (by assumption) (mX11_tunnelling_169 _ (by first | assumption | exact ih | (intros; apply ih) | (intros; apply mX11_tunnelling_102)) ..) (fun _ h => h)
    | exact zPr.tail (S' := sX11_tunnelling) (by assumption) (mX11_tunnelling_163 _ _ (by first | assumption | exact ih | (intros; apply ih) | (intros; apply mX11_tunnelling_102)) (by first | assumption | exact ih | (intros; apply ih) | (intros; apply mX11_tunnelling_125)) ..) (fun _ h => h)
    | exact zPr.tail (S' := sX11_tunnelling) (by assumption) (mX11_tunnelling_125 _ (by first | assumption | exact ih | (intros; apply ih) | (intros; apply mX11_tunnelling_102)) ..) (fun _ h => h)
    | exact zPr.tail (S' := sX11_tunnelling) (by assumption) (mX11_tunnelling_102 ..) (fun _ h => h)
    | exact zPr.tail (S' := sX11_tunnelling) (by assumption) (mX11_tunnelling_101 ..) (fun _ h => h)
theorem mX11_tunnelling (σ : zS) : zPr (sX11_tunnelling σ.2.2) σ id (fX11_tunnelling σ) := by
  unfold fX11_tunnelling
  have hc := zSm.rfl (sX11_tunnelling σ.2.2) σ
  repeat' first
    | exact zPr.none
    | exact zPr.some (by assumption)
    | refine zPr.ite ?_ ?_
    | refine zPr.wI (by assumption) (by simp only [sX11_tunnelling, List.mem_cons, List.not_mem_nil, or_false]; omega) (fun _ _ => ?_)
    | refine zPr.wL (by assumption) (by simp only [sX11_tunnelling, List.mem_cons, List.not_mem_nil, or_false]; omega) (fun _ _ => ?_)
    | refine zPr.bI (by assumption) (by simp only [sX11_tunnelling, List.mem_cons, List.not_mem_nil, or_false]; omega) (fun _ _ => ?_)
    | refine zPr.bL (by assumption) (by simp only [sX11_tunnelling, List.mem_cons, List.not_mem_nil, or_false]; omega) (fun _ _ => ?_)
    | refine zPr.wC (by assumption) (by simp only [sX11_tunnelling, List.mem_cons, List.not_mem_nil, or_false]; omega) (fun _ _ => ?_)
    | refine zPr.aI (fun _ => ?_)
    | refine zPr.aL (fun _ => ?_)
    | refine zPr.gd ?_
    | refine zPr.bw (S' := sX11_ahead) (by assumption) (mX11_ahead ..) (fun p hp => by simp only [sX11_ahead, sX11_tunnelling, List.mem_cons, List.not_mem_nil, or_false] at hp ⊢ <;> omega) (fun _ _ => ?_)
    | refine zPr.bw (S' := sX11_blame) (by assumption) (mX11_blame ..) (fun p hp => by simp only [sX11_blame, sX11_tunnelling, List.mem_cons, List.not_mem_nil, or_false] at hp ⊢ <;> omega) (fun _ _ => ?_)
    | refine zPr.bc (S' := sX11_counts) (by assumption) (mX11_counts ..) (fun p hp => by simp only [sX11_counts, sX11_tunnelling, List.mem_cons, List.not_mem_nil, or_false] at hp ⊢ <;> omega) (fun _ _ _ => ?_)
    | refine zPr.bc (S' := sX11_fresh) (by assumption) (mX11_fresh ..) (fun p hp => by simp only [sX11_fresh, sX11_tunnelling, List.mem_cons, List.not_mem_nil, or_false] at hp ⊢ <;> omega) (fun _ _ _ => ?_)
    | refine zPr.bw (S' := sX11_lex) (by assumption) (mX11_lex ..) (fun p hp => by simp only [sX11_lex, sX11_tunnelling, List.mem_cons, List.not_mem_nil, or_false] at hp ⊢ <;> omega) (fun _ _ => ?_)
    | refine zPr.bc (S' := sX11_lookedAt) (by assumption) (mX11_lookedAt ..) (fun p hp => by simp only [sX11_lookedAt, sX11_tunnelling, List.mem_cons, List.not_mem_nil, or_false] at hp ⊢ <;> omega) (fun _ _ _ => ?_)
    | refine zPr.bw (S' := sX11_must_) (by assumption) (mX11_must_ ..) (fun p hp => by simp only [sX11_must_, sX11_tunnelling, List.mem_cons, List.not_mem_nil, or_false] at hp ⊢ <;> omega) (fun _ _ => ?_)
    | refine zPr.bc (S' := sX11_number) (by assumption) (mX11_number ..) (fun p hp => by simp only [sX11_number, sX11_tunnelling, List.mem_cons, List.not_mem_nil, or_false] at hp ⊢ <;> omega) (fun _ _ _ => ?_)
    | refine zPr.bnr (fun _ => ?_)
    | refine zPr.bnv (fun _ => ?_)
    | exact zPr.tail (S' := sX11_tunnelling) (by assumption) (mX11_tunnelling_288 _ (by first | assumption | exact ih | (intros; apply ih) | (intros; apply mX11_tunnelling_102)) ..) (fun _ h => h)
    | exact zPr.tail (S' := sX11_tunnelling) (by assumption) (mX11_tunnelling_284 _ (by first | assumption | exact ih | (intros; apply ih) | (intros; apply mX11_tunnelling_102)) ..) (fun _ h => h)
    | exact zPr.tail (S' := sX11_tunnelling) (by assumption) (mX11_tunnelling_263 _ (by first | assumption | exact ih | (intros; apply ih) | (intros; apply mX11_tunnelling_102)) ..) (fun _ h => h)
    | exact zPr.tail (S' := sX11_tunnelling) (by assumption) (mX11_tunnelling_262 _ (by first | assumption | exact ih | (intros; apply ih) | (intros; apply mX11_tunnelling_102)) ..) (fun _ h => h)
    | exact zPr.tail (S' := sX11_tunnelling) (by assumption) (mX11_tunnelling_237 _ (by first | assumption | exact ih | (intros; apply ih) | (intros; apply mX11_tunnelling_102)) ..) (fun _ h => h)
    | exact zPr.tail (S' := sX11_tunnelling) (by assumption) (mX11_tunnelling_180 _ (by first | assumption | exact ih | (intros; apply ih) | (intros; apply mX11_tunnelling_102)) ..) (fun _ h => h)
    | exact zPr.tail (S' := sX11_tunnelling) (by assumption) (mX11_tunnelling_169 _ (by first | assumption | exact ih | (intros; apply ih) | (intros; apply mX11_tunnelling_102)) ..) (fun _ h => h)
    | exact zPr.tail (S' := sX11_tunnelling) (by assumption) (mX11_tunnelling_163 _ _ (by first | assumption | exact ih | (intros; apply ih) | (intros; apply mX11_tunnelling_102)) (by first | assumption | exact ih | (intros; apply ih) | (intros; apply mX11_tunnelling_125)) ..) (fun _ h => h)
    | exact zPr.tail (S' := sX11_tunnelling) (by assumption) (mX11_tunnelling_125 _ (by first | assumption | exact ih | (intros; apply ih) | (intros; apply mX11_tunnelling_102)) ..) (fun _ h => h)
    | exact zPr.tail (S' := sX11_tunnelling) (by assumption) (mX11_tunnelling_102 ..) (fun _ h => h)
    | exact zPr.tail (S' := sX11_tunnelling) (by assumption) (mX11_tunnelling_101 ..) (fun _ h => h)
    | exact zPr.tail (S' := sX11_tunnelling) (by assumption) (mX11_tunnelling_20 ..) (fun _ h => h)
def sX11_holdering (t : Bool × Bool × Bool) : List Nat := [56, 63, 64, 65, 66, 67, 77]
theorem mX11_holdering_105 : ∀ (fuel : Nat) (x1 : Int32) (x2 : Int32) (σ : zS), zPr (sX11_holdering σ.2.2) σ id (fX11_holdering_105 fuel x1 x2 σ) := by
  intro fuel
  induction fuel with
  | zero => intro x1 x2 σ; exact zPr.none
  | succ f ih =>
    intro x1 x2 σ
    rw [fX11_holdering_105]
    have hc := zSm.rfl (sX11_holdering σ.2.2) σ
    repeat' first
      | exact zPr.none
      | exact zPr.some (by assumption)
      | refine zPr.ite ?_ ?_
      | refine zPr.wI (by assumption) (by simp only [sX11_holdering, List.mem_cons, List.not_mem_nil, or_false]; omega) (fun _ _ => ?_)
      | refine zPr.wL (by assumption) (by simp only [sX11_holdering, List.mem_cons, List.not_mem_nil, or_false]; omega) (fun _ _ => ?_)
      | refine zPr.bI (by assumption) (by simp only [sX11_holdering, List.mem_cons, List.not_mem_nil, or_false]; omega) (fun _ _ => ?_)
      | refine zPr.bL (by assumption) (by simp only [sX11_holdering, List.mem_cons, List.not_mem_nil, or_false]; omega) (fun _ _ => ?_)
      | refine zPr.wC (by assumption) (by simp only [sX11_holdering, List.mem_cons, List.not_mem_nil, or_false]; omega) (fun _ _ => ?_)
      | refine zPr.aI (fun _ => ?_)
      | refine zPr.aL (fun _ => ?_)
      | refine zPr.gd ?_
      | refine zPr.bc (S' := sX11_counts) (by assumption) (mX11_counts ..) (fun p hp => by simp only [sX11_counts, sX11_holdering, List.mem_cons, List.not_mem_nil, or_false] at hp ⊢ <;> omega) (fun _ _ _ => ?_)
      | refine zPr.bc (S' := sX11_fresh) (by assumption) (mX11_fresh ..) (fun p hp => by simp only [sX11_fresh, sX11_holdering, List.mem_cons, List.not_mem_nil, or_false] at hp ⊢ <;> omega) (fun _ _ _ => ?_)
      | refine zPr.bw (S' := sX11_must_) (by assumption) (mX11_must_ ..) (fun p hp => by simp only [sX11_must_, sX11_holdering, List.mem_cons, List.not_mem_nil, or_false] at hp ⊢ <;> omega) (fun _ _ => ?_)
      | refine zPr.bc (S' := sX11_number) (by assumption) (mX11_number ..) (fun p hp => by simp only [sX11_number, sX11_holdering, List.mem_cons, List.not_mem_nil, or_false] at hp ⊢ <;> omega) (fun _ _ _ => ?_)
      | refine zPr.bnr (fun _ => ?_)
      | refine zPr.bnv (fun _ => ?_)
      | exact zPr.tail (S' := sX11_holdering) (by assumption) (ih ..) (fun _ h => h)
theorem mX11_holdering_20 (s0 : Int32) (σ : zS) : zPr (sX11_holdering σ.2.2) σ id (fX11_holdering_20 s0 σ) := by
  unfold fX11_holdering_20
  have hc := zSm.rfl (sX11_holdering σ.2.2) σ
  repeat' first
    | exact zPr.none
    | exact zPr.some (by assumption)
    | refine zPr.ite ?_ ?_
    | refine zPr.wI (by assumption) (by simp only [sX11_holdering, List.mem_cons, List.not_mem_nil, or_false]; omega) (fun _ _ => ?_)
    | refine zPr.wL (by assumption) (by simp only [sX11_holdering, List.mem_cons, List.not_mem_nil, or_false]; omega) (fun _ _ => ?_)
    | refine zPr.bI (by assumption) (by simp only [sX11_holdering, List.mem_cons, List.not_mem_nil, or_false]; omega) (fun _ _ => ?_)
    | refine zPr.bL (by assumption) (by simp only [sX11_holdering, List.mem_cons, List.not_mem_nil, or_false]; omega) (fun _ _ => ?_)
    | refine zPr.wC (by assumption) (by simp only [sX11_holdering, List.mem_cons, List.not_mem_nil, or_false]; omega) (fun _ _ => ?_)
    | refine zPr.aI (fun _ => ?_)
    | refine zPr.aL (fun _ => ?_)
    | refine zPr.gd ?_
    | refine zPr.bc (S' := sX11_counts) (by assumption) (mX11_counts ..) (fun p hp => by simp only [sX11_counts, sX11_holdering, List.mem_cons, List.not_mem_nil, or_false] at hp ⊢ <;> omega) (fun _ _ _ => ?_)
    | refine zPr.bc (S' := sX11_fresh) (by assumption) (mX11_fresh ..) (fun p hp => by simp only [sX11_fresh, sX11_holdering, List.mem_cons, List.not_mem_nil, or_false] at hp ⊢ <;> omega) (fun _ _ _ => ?_)
    | refine zPr.bw (S' := sX11_must_) (by assumption) (mX11_must_ ..) (fun p hp => by simp only [sX11_must_, sX11_holdering, List.mem_cons, List.not_mem_nil, or_false] at hp ⊢ <;> omega) (fun _ _ => ?_)
    | refine zPr.bc (S' := sX11_number) (by assumption) (mX11_number ..) (fun p hp => by simp only [sX11_number, sX11_holdering, List.mem_cons, List.not_mem_nil, or_false] at hp ⊢ <;> omega) (fun _ _ _ => ?_)
    | refine zPr.bnr (fun _ => ?_)
    | refine zPr.bnv (fun _ => ?_)
    | exact zPr.tail (S' := sX11_holdering) (by assumption) (mX11_holdering_105 ..) (fun _ h => h)
theorem mX11_holdering (σ : zS) : zPr (sX11_holdering σ.2.2) σ id (fX11_holdering σ) := by
  unfold fX11_holdering
  have hc := zSm.rfl (sX11_holdering σ.2.2) σ
  repeat' first
    | exact zPr.none
    | exact zPr.some (by assumption)
    | refine zPr.ite ?_ ?_
    | refine zPr.wI (by assumption) (by simp only [sX11_holdering, List.mem_cons, List.not_mem_nil, or_false]; omega) (fun _ _ => ?_)
    | refine zPr.wL (by assumption) (by simp only [sX11_holdering, List.mem_cons, List.not_mem_nil, or_false]; omega) (fun _ _ => ?_)
    | refine zPr.bI (by assumption) (by simp only [sX11_holdering, List.mem_cons, List.not_mem_nil, or_false]; omega) (fun _ _ => ?_)
    | refine zPr.bL (by assumption) (by simp only [sX11_holdering, List.mem_cons, List.not_mem_nil, or_false]; omega) (fun _ _ => ?_)
    | refine zPr.wC (by assumption) (by simp only [sX11_holdering, List.mem_cons, List.not_mem_nil, or_false]; omega) (fun _ _ => ?_)
    | refine zPr.aI (fun _ => ?_)
    | refine zPr.aL (fun _ => ?_)
    | refine zPr.gd ?_
    | refine zPr.bc (S' := sX11_counts) (by assumption) (mX11_counts ..) (fun p hp => by simp only [sX11_counts, sX11_holdering, List.mem_cons, List.not_mem_nil, or_false] at hp ⊢ <;> omega) (fun _ _ _ => ?_)
    | refine zPr.bc (S' := sX11_fresh) (by assumption) (mX11_fresh ..) (fun p hp => by simp only [sX11_fresh, sX11_holdering, List.mem_cons, List.not_mem_nil, or_false] at hp ⊢ <;> omega) (fun _ _ _ => ?_)
    | refine zPr.bw (S' := sX11_must_) (by assumption) (mX11_must_ ..) (fun p hp => by simp only [sX11_must_, sX11_holdering, List.mem_cons, List.not_mem_nil, or_false] at hp ⊢ <;> omega) (fun _ _ => ?_)
    | refine zPr.bc (S' := sX11_number) (by assumption) (mX11_number ..) (fun p hp => by simp only [sX11_number, sX11_holdering, List.mem_cons, List.not_mem_nil, or_false] at hp ⊢ <;> omega) (fun _ _ _ => ?_)
    | refine zPr.bnr (fun _ => ?_)
    | refine zPr.bnv (fun _ => ?_)
    | exact zPr.tail (S' := sX11_holdering) (by assumption) (mX11_holdering_105 ..) (fun _ h => h)
    | exact zPr.tail (S' := sX11_holdering) (by assumption) (mX11_holdering_20 ..) (fun _ h => h)
def sX11_thinking (t : Bool × Bool × Bool) : List Nat := [56, 67]
theorem mX11_thinking (σ : zS) : zPr (sX11_thinking σ.2.2) σ id (fX11_thinking σ) := by
  unfold fX11_thinking
  have hc := zSm.rfl (sX11_thinking σ.2.2) σ
  repeat' first
    | exact zPr.none
    | exact zPr.some (by assumption)
    | refine zPr.ite ?_ ?_
    | refine zPr.wI (by assumption) (by simp only [sX11_thinking, List.mem_cons, List.not_mem_nil, or_false]; omega) (fun _ _ => ?_)
    | refine zPr.wL (by assumption) (by simp only [sX11_thinking, List.mem_cons, List.not_mem_nil, or_false]; omega) (fun _ _ => ?_)
    | refine zPr.bI (by assumption) (by simp only [sX11_thinking, List.mem_cons, List.not_mem_nil, or_false]; omega) (fun _ _ => ?_)
    | refine zPr.bL (by assumption) (by simp only [sX11_thinking, List.mem_cons, List.not_mem_nil, or_false]; omega) (fun _ _ => ?_)
    | refine zPr.wC (by assumption) (by simp only [sX11_thinking, List.mem_cons, List.not_mem_nil, or_false]; omega) (fun _ _ => ?_)
    | refine zPr.aI (fun _ => ?_)
    | refine zPr.aL (fun _ => ?_)
    | refine zPr.gd ?_
    | refine zPr.bc (S' := sX11_asked) (by assumption) (mX11_asked ..) (fun p hp => by simp only [sX11_asked, sX11_thinking, List.mem_cons, List.not_mem_nil, or_false] at hp ⊢ <;> omega) (fun _ _ _ => ?_)
    | refine zPr.bc (S' := sX11_counts) (by assumption) (mX11_counts ..) (fun p hp => by simp only [sX11_counts, sX11_thinking, List.mem_cons, List.not_mem_nil, or_false] at hp ⊢ <;> omega) (fun _ _ _ => ?_)
    | refine zPr.bc (S' := sX11_number) (by assumption) (mX11_number ..) (fun p hp => by simp only [sX11_number, sX11_thinking, List.mem_cons, List.not_mem_nil, or_false] at hp ⊢ <;> omega) (fun _ _ _ => ?_)
    | refine zPr.bnr (fun _ => ?_)
    | refine zPr.bnv (fun _ => ?_)
def sX11_giving (t : Bool × Bool × Bool) : List Nat := [56, 66]
theorem mX11_giving (σ : zS) : zPr (sX11_giving σ.2.2) σ id (fX11_giving σ) := by
  unfold fX11_giving
  have hc := zSm.rfl (sX11_giving σ.2.2) σ
  repeat' first
    | exact zPr.none
    | exact zPr.some (by assumption)
    | refine zPr.ite ?_ ?_
    | refine zPr.wI (by assumption) (by simp only [sX11_giving, List.mem_cons, List.not_mem_nil, or_false]; omega) (fun _ _ => ?_)
    | refine zPr.wL (by assumption) (by simp only [sX11_giving, List.mem_cons, List.not_mem_nil, or_false]; omega) (fun _ _ => ?_)
    | refine zPr.bI (by assumption) (by simp only [sX11_giving, List.mem_cons, List.not_mem_nil, or_false]; omega) (fun _ _ => ?_)
    | refine zPr.bL (by assumption) (by simp only [sX11_giving, List.mem_cons, List.not_mem_nil, or_false]; omega) (fun _ _ => ?_)
    | refine zPr.wC (by assumption) (by simp only [sX11_giving, List.mem_cons, List.not_mem_nil, or_false]; omega) (fun _ _ => ?_)
    | refine zPr.aI (fun _ => ?_)
    | refine zPr.aL (fun _ => ?_)
    | refine zPr.gd ?_
    | refine zPr.bc (S' := sX11_asked) (by assumption) (mX11_asked ..) (fun p hp => by simp only [sX11_asked, sX11_giving, List.mem_cons, List.not_mem_nil, or_false] at hp ⊢ <;> omega) (fun _ _ _ => ?_)
    | refine zPr.bc (S' := sX11_counts) (by assumption) (mX11_counts ..) (fun p hp => by simp only [sX11_counts, sX11_giving, List.mem_cons, List.not_mem_nil, or_false] at hp ⊢ <;> omega) (fun _ _ _ => ?_)
    | refine zPr.bc (S' := sX11_number) (by assumption) (mX11_number ..) (fun p hp => by simp only [sX11_number, sX11_giving, List.mem_cons, List.not_mem_nil, or_false] at hp ⊢ <;> omega) (fun _ _ _ => ?_)
    | refine zPr.bnr (fun _ => ?_)
    | refine zPr.bnv (fun _ => ?_)
def sX11_worthing (t : Bool × Bool × Bool) : List Nat := [56, 68, 69, 74, 75, 78, 79, 80, 81, 82, 83]
theorem mX11_worthing_19 (s0 : Int32) (σ : zS) : zPr (sX11_worthing σ.2.2) σ id (fX11_worthing_19 s0 σ) := by
  unfold fX11_worthing_19
  have hc := zSm.rfl (sX11_worthing σ.2.2) σ
  repeat' first
    | exact zPr.none
    | exact zPr.some (by assumption)
    | refine zPr.ite ?_ ?_
    | refine zPr.wI (by assumption) (by simp only [sX11_worthing, List.mem_cons, List.not_mem_nil, or_false]; omega) (fun _ _ => ?_)
    | refine zPr.wL (by assumption) (by simp only [sX11_worthing, List.mem_cons, List.not_mem_nil, or_false]; omega) (fun _ _ => ?_)
    | refine zPr.bI (by assumption) (by simp only [sX11_worthing, List.mem_cons, List.not_mem_nil, or_false]; omega) (fun _ _ => ?_)
    | refine zPr.bL (by assumption) (by simp only [sX11_worthing, List.mem_cons, List.not_mem_nil, or_false]; omega) (fun _ _ => ?_)
    | refine zPr.wC (by assumption) (by simp only [sX11_worthing, List.mem_cons, List.not_mem_nil, or_false]; omega) (fun _ _ => ?_)
    | refine zPr.aI (fun _ => ?_)
    | refine zPr.aL (fun _ => ?_)
    | refine zPr.gd ?_
    | refine zPr.bc (S' := sX11_counts) (by assumption) (mX11_counts ..) (fun p hp => by simp only [sX11_counts, sX11_worthing, List.mem_cons, List.not_mem_nil, or_false] at hp ⊢ <;> omega) (fun _ _ _ => ?_)
    | refine zPr.bw (S' := sX11_reads) (by assumption) (mX11_reads ..) (fun p hp => by simp only [sX11_reads, sX11_worthing, List.mem_cons, List.not_mem_nil, or_false] at hp ⊢ <;> omega) (fun _ _ => ?_)
    | refine zPr.bnr (fun _ => ?_)
    | refine zPr.bnv (fun _ => ?_)
theorem mX11_worthing (σ : zS) : zPr (sX11_worthing σ.2.2) σ id (fX11_worthing σ) := by
  unfold fX11_worthing
  have hc := zSm.rfl (sX11_worthing σ.2.2) σ
  repeat' first
    | exact zPr.none
    | exact zPr.some (by assumption)
    | refine zPr.ite ?_ ?_
    | refine zPr.wI (by assumption) (by simp only [sX11_worthing, List.mem_cons, List.not_mem_nil, or_false]; omega) (fun _ _ => ?_)
    | refine zPr.wL (by assumption) (by simp only [sX11_worthing, List.mem_cons, List.not_mem_nil, or_false]; omega) (fun _ _ => ?_)
    | refine zPr.bI (by assumption) (by simp only [sX11_worthing, List.mem_cons, List.not_mem_nil, or_false]; omega) (fun _ _ => ?_)
    | refine zPr.bL (by assumption) (by simp only [sX11_worthing, List.mem_cons, List.not_mem_nil, or_false]; omega) (fun _ _ => ?_)
    | refine zPr.wC (by assumption) (by simp only [sX11_worthing, List.mem_cons, List.not_mem_nil, or_false]; omega) (fun _ _ => ?_)
    | refine zPr.aI (fun _ => ?_)
    | refine zPr.aL (fun _ => ?_)
    | refine zPr.gd ?_
    | refine zPr.bc (S' := sX11_counts) (by assumption) (mX11_counts ..) (fun p hp => by simp only [sX11_counts, sX11_worthing, List.mem_cons, List.not_mem_nil, or_false] at hp ⊢ <;> omega) (fun _ _ _ => ?_)
    | refine zPr.bw (S' := sX11_reads) (by assumption) (mX11_reads ..) (fun p hp => by simp only [sX11_reads, sX11_worthing, List.mem_cons, List.not_mem_nil, or_false] at hp ⊢ <;> omega) (fun _ _ => ?_)
    | refine zPr.bnr (fun _ => ?_)
    | refine zPr.bnv (fun _ => ?_)
    | exact zPr.tail (S' := sX11_worthing) (by assumption) (mX11_worthing_19 ..) (fun _ h => h)
def sX11_tiring (t : Bool × Bool × Bool) : List Nat := [56, 70, 71, 74, 75, 78, 79, 80, 81, 82, 83]
theorem mX11_tiring_19 (s0 : Int32) (σ : zS) : zPr (sX11_tiring σ.2.2) σ id (fX11_tiring_19 s0 σ) := by
  unfold fX11_tiring_19
  have hc := zSm.rfl (sX11_tiring σ.2.2) σ
  repeat' first
    | exact zPr.none
    | exact zPr.some (by assumption)
    | refine zPr.ite ?_ ?_
    | refine zPr.wI (by assumption) (by simp only [sX11_tiring, List.mem_cons, List.not_mem_nil, or_false]; omega) (fun _ _ => ?_)
    | refine zPr.wL (by assumption) (by simp only [sX11_tiring, List.mem_cons, List.not_mem_nil, or_false]; omega) (fun _ _ => ?_)
    | refine zPr.bI (by assumption) (by simp only [sX11_tiring, List.mem_cons, List.not_mem_nil, or_false]; omega) (fun _ _ => ?_)
    | refine zPr.bL (by assumption) (by simp only [sX11_tiring, List.mem_cons, List.not_mem_nil, or_false]; omega) (fun _ _ => ?_)
    | refine zPr.wC (by assumption) (by simp only [sX11_tiring, List.mem_cons, List.not_mem_nil, or_false]; omega) (fun _ _ => ?_)
    | refine zPr.aI (fun _ => ?_)
    | refine zPr.aL (fun _ => ?_)
    | refine zPr.gd ?_
    | refine zPr.bc (S' := sX11_counts) (by assumption) (mX11_counts ..) (fun p hp => by simp only [sX11_counts, sX11_tiring, List.mem_cons, List.not_mem_nil, or_false] at hp ⊢ <;> omega) (fun _ _ _ => ?_)
    | refine zPr.bw (S' := sX11_reads) (by assumption) (mX11_reads ..) (fun p hp => by simp only [sX11_reads, sX11_tiring, List.mem_cons, List.not_mem_nil, or_false] at hp ⊢ <;> omega) (fun _ _ => ?_)
    | refine zPr.bnr (fun _ => ?_)
    | refine zPr.bnv (fun _ => ?_)
theorem mX11_tiring (σ : zS) : zPr (sX11_tiring σ.2.2) σ id (fX11_tiring σ) := by
  unfold fX11_tiring
  have hc := zSm.rfl (sX11_tiring σ.2.2) σ
  repeat' first
    | exact zPr.none
    | exact zPr.some (by assumption)
    | refine zPr.ite ?_ ?_
    | refine zPr.wI (by assumption) (by simp only [sX11_tiring, List.mem_cons, List.not_mem_nil, or_false]; omega) (fun _ _ => ?_)
    | refine zPr.wL (by assumption) (by simp only [sX11_tiring, List.mem_cons, List.not_mem_nil, or_false]; omega) (fun _ _ => ?_)
    | refine zPr.bI (by assumption) (by simp only [sX11_tiring, List.mem_cons, List.not_mem_nil, or_false]; omega) (fun _ _ => ?_)
    | refine zPr.bL (by assumption) (by simp only [sX11_tiring, List.mem_cons, List.not_mem_nil, or_false]; omega) (fun _ _ => ?_)
    | refine zPr.wC (by assumption) (by simp only [sX11_tiring, List.mem_cons, List.not_mem_nil, or_false]; omega) (fun _ _ => ?_)
    | refine zPr.aI (fun _ => ?_)
    | refine zPr.aL (fun _ => ?_)
    | refine zPr.gd ?_
    | refine zPr.bc (S' := sX11_counts) (by assumption) (mX11_counts ..) (fun p hp => by simp only [sX11_counts, sX11_tiring, List.mem_cons, List.not_mem_nil, or_false] at hp ⊢ <;> omega) (fun _ _ _ => ?_)
    | refine zPr.bw (S' := sX11_reads) (by assumption) (mX11_reads ..) (fun p hp => by simp only [sX11_reads, sX11_tiring, List.mem_cons, List.not_mem_nil, or_false] at hp ⊢ <;> omega) (fun _ _ => ?_)
    | refine zPr.bnr (fun _ => ?_)
    | refine zPr.bnv (fun _ => ?_)
    | exact zPr.tail (S' := sX11_tiring) (by assumption) (mX11_tiring_19 ..) (fun _ h => h)
def sX11_telling (t : Bool × Bool × Bool) : List Nat := [56, 72, 73]
theorem mX11_telling_23 (x1 : Int32) (s0 : Int32) (s1 : Int32) (σ : zS) : zPr (sX11_telling σ.2.2) σ id (fX11_telling_23 x1 s0 s1 σ) := by
  unfold fX11_telling_23
  have hc := zSm.rfl (sX11_telling σ.2.2) σ
  repeat' first
    | exact zPr.none
    | exact zPr.some (by assumption)
    | refine zPr.ite ?_ ?_
    | refine zPr.wI (by assumption) (by simp only [sX11_telling, List.mem_cons, List.not_mem_nil, or_false]; omega) (fun _ _ => ?_)
    | refine zPr.wL (by assumption) (by simp only [sX11_telling, List.mem_cons, List.not_mem_nil, or_false]; omega) (fun _ _ => ?_)
    | refine zPr.bI (by assumption) (by simp only [sX11_telling, List.mem_cons, List.not_mem_nil, or_false]; omega) (fun _ _ => ?_)
    | refine zPr.bL (by assumption) (by simp only [sX11_telling, List.mem_cons, List.not_mem_nil, or_false]; omega) (fun _ _ => ?_)
    | refine zPr.wC (by assumption) (by simp only [sX11_telling, List.mem_cons, List.not_mem_nil, or_false]; omega) (fun _ _ => ?_)
    | refine zPr.aI (fun _ => ?_)
    | refine zPr.aL (fun _ => ?_)
    | refine zPr.gd ?_
    | refine zPr.bc (S' := sX11_counts) (by assumption) (mX11_counts ..) (fun p hp => by simp only [sX11_counts, sX11_telling, List.mem_cons, List.not_mem_nil, or_false] at hp ⊢ <;> omega) (fun _ _ _ => ?_)
    | refine zPr.bc (S' := sX11_number) (by assumption) (mX11_number ..) (fun p hp => by simp only [sX11_number, sX11_telling, List.mem_cons, List.not_mem_nil, or_false] at hp ⊢ <;> omega) (fun _ _ _ => ?_)
    | refine zPr.bnr (fun _ => ?_)
    | refine zPr.bnv (fun _ => ?_)
theorem mX11_telling (p1 : Int32) (σ : zS) : zPr (sX11_telling σ.2.2) σ id (fX11_telling p1 σ) := by
  unfold fX11_telling
  have hc := zSm.rfl (sX11_telling σ.2.2) σ
  repeat' first
    | exact zPr.none
    | exact zPr.some (by assumption)
    | refine zPr.ite ?_ ?_
    | refine zPr.wI (by assumption) (by simp only [sX11_telling, List.mem_cons, List.not_mem_nil, or_false]; omega) (fun _ _ => ?_)
    | refine zPr.wL (by assumption) (by simp only [sX11_telling, List.mem_cons, List.not_mem_nil, or_false]; omega) (fun _ _ => ?_)
    | refine zPr.bI (by assumption) (by simp only [sX11_telling, List.mem_cons, List.not_mem_nil, or_false]; omega) (fun _ _ => ?_)
    | refine zPr.bL (by assumption) (by simp only [sX11_telling, List.mem_cons, List.not_mem_nil, or_false]; omega) (fun _ _ => ?_)
    | refine zPr.wC (by assumption) (by simp only [sX11_telling, List.mem_cons, List.not_mem_nil, or_false]; omega) (fun _ _ => ?_)
    | refine zPr.aI (fun _ => ?_)
    | refine zPr.aL (fun _ => ?_)
    | refine zPr.gd ?_
    | refine zPr.bc (S' := sX11_counts) (by assumption) (mX11_counts ..) (fun p hp => by simp only [sX11_counts, sX11_telling, List.mem_cons, List.not_mem_nil, or_false] at hp ⊢ <;> omega) (fun _ _ _ => ?_)
    | refine zPr.bc (S' := sX11_number) (by assumption) (mX11_number ..) (fun p hp => by simp only [sX11_number, sX11_telling, List.mem_cons, List.not_mem_nil, or_false] at hp ⊢ <;> omega) (fun _ _ _ => ?_)
    | refine zPr.bnr (fun _ => ?_)
    | refine zPr.bnv (fun _ => ?_)
    | exact zPr.tail (S' := sX11_telling) (by assumption) (mX11_telling_23 ..) (fun _ h => h)
def sX11_statement (t : Bool × Bool × Bool) : List Nat := [56, 58, 59, 60, 61, 62, 63, 64, 65, 66, 67, 68, 69, 70, 71, 72, 73, 74, 75, 76, 77, 78, 79, 80, 81, 82, 83]
theorem mX11_statement (σ : zS) : zPr (sX11_statement σ.2.2) σ id (fX11_statement σ) := by
  unfold fX11_statement
  have hc := zSm.rfl (sX11_statement σ.2.2) σ
  repeat' first
    | exact zPr.none
    | exact zPr.some (by assumption)
    | refine zPr.ite ?_ ?_
    | refine zPr.wI (by assumption) (by simp only [sX11_statement, List.mem_cons, List.not_mem_nil, or_false]; omega) (fun _ _ => ?_)
    | refine zPr.wL (by assumption) (by simp only [sX11_statement, List.mem_cons, List.not_mem_nil, or_false]; omega) (fun _ _ => ?_)
    | refine zPr.bI (by assumption) (by simp only [sX11_statement, List.mem_cons, List.not_mem_nil, or_false]; omega) (fun _ _ => ?_)
    | refine zPr.bL (by assumption) (by simp only [sX11_statement, List.mem_cons, List.not_mem_nil, or_false]; omega) (fun _ _ => ?_)
    | refine zPr.wC (by assumption) (by simp only [sX11_statement, List.mem_cons, List.not_mem_nil, or_false]; omega) (fun _ _ => ?_)
    | refine zPr.aI (fun _ => ?_)
    | refine zPr.aL (fun _ => ?_)
    | refine zPr.gd ?_
    | refine zPr.bw (S' := sX11_blame) (by assumption) (mX11_blame ..) (fun p hp => by simp only [sX11_blame, sX11_statement, List.mem_cons, List.not_mem_nil, or_false] at hp ⊢ <;> omega) (fun _ _ => ?_)
    | refine zPr.bw (S' := sX11_giving) (by assumption) (mX11_giving ..) (fun p hp => by simp only [sX11_giving, sX11_statement, List.mem_cons, List.not_mem_nil, or_false] at hp ⊢ <;> omega) (fun _ _ => ?_)
    | refine zPr.bw (S' := sX11_holdering) (by assumption) (mX11_holdering ..) (fun p hp => by simp only [sX11_holdering, sX11_statement, List.mem_cons, List.not_mem_nil, or_false] at hp ⊢ <;> omega) (fun _ _ => ?_)
    | refine zPr.bw (S' := sX11_lex) (by assumption) (mX11_lex ..) (fun p hp => by simp only [sX11_lex, sX11_statement, List.mem_cons, List.not_mem_nil, or_false] at hp ⊢ <;> omega) (fun _ _ => ?_)
    | refine zPr.bw (S' := sX11_telling) (by assumption) (mX11_telling ..) (fun p hp => by simp only [sX11_telling, sX11_statement, List.mem_cons, List.not_mem_nil, or_false] at hp ⊢ <;> omega) (fun _ _ => ?_)
    | refine zPr.bw (S' := sX11_thinking) (by assumption) (mX11_thinking ..) (fun p hp => by simp only [sX11_thinking, sX11_statement, List.mem_cons, List.not_mem_nil, or_false] at hp ⊢ <;> omega) (fun _ _ => ?_)
    | refine zPr.bw (S' := sX11_tiring) (by assumption) (mX11_tiring ..) (fun p hp => by simp only [sX11_tiring, sX11_statement, List.mem_cons, List.not_mem_nil, or_false] at hp ⊢ <;> omega) (fun _ _ => ?_)
    | refine zPr.bw (S' := sX11_tunnelling) (by assumption) (mX11_tunnelling ..) (fun p hp => by simp only [sX11_tunnelling, sX11_statement, List.mem_cons, List.not_mem_nil, or_false] at hp ⊢ <;> omega) (fun _ _ => ?_)
    | refine zPr.bw (S' := sX11_worthing) (by assumption) (mX11_worthing ..) (fun p hp => by simp only [sX11_worthing, sX11_statement, List.mem_cons, List.not_mem_nil, or_false] at hp ⊢ <;> omega) (fun _ _ => ?_)
    | refine zPr.bnr (fun _ => ?_)
    | refine zPr.bnv (fun _ => ?_)
def sX11_finishes (t : Bool × Bool × Bool) : List Nat := [56]
theorem mX11_finishes_83 (σ : zS) : zPr (sX11_finishes σ.2.2) σ id (fX11_finishes_83 σ) := by
  unfold fX11_finishes_83
  have hc := zSm.rfl (sX11_finishes σ.2.2) σ
  repeat' first
    | exact zPr.none
    | exact zPr.some (by assumption)
    | refine zPr.ite ?_ ?_
    | refine zPr.wI (by assumption) (by simp only [sX11_finishes, List.mem_cons, List.not_mem_nil, or_false]; omega) (fun _ _ => ?_)
    | refine zPr.wL (by assumption) (by simp only [sX11_finishes, List.mem_cons, List.not_mem_nil, or_false]; omega) (fun _ _ => ?_)
    | refine zPr.bI (by assumption) (by simp only [sX11_finishes, List.mem_cons, List.not_mem_nil, or_false]; omega) (fun _ _ => ?_)
    | refine zPr.bL (by assumption) (by simp only [sX11_finishes, List.mem_cons, List.not_mem_nil, or_false]; omega) (fun _ _ => ?_)
    | refine zPr.wC (by assumption) (by simp only [sX11_finishes, List.mem_cons, List.not_mem_nil, or_false]; omega) (fun _ _ => ?_)
    | refine zPr.aI (fun _ => ?_)
    | refine zPr.aL (fun _ => ?_)
    | refine zPr.gd ?_
    | refine zPr.bw (S' := sX11_blame) (by assumption) (mX11_blame ..) (fun p hp => by simp only [sX11_blame, sX11_finishes, List.mem_cons, List.not_mem_nil, or_false] at hp ⊢ <;> omega) (fun _ _ => ?_)
    | refine zPr.bw (S' := sX11_lex) (by assumption) (mX11_lex ..) (fun p hp => by simp only [sX11_lex, sX11_finishes, List.mem_cons, List.not_mem_nil, or_false] at hp ⊢ <;> omega) (fun _ _ => ?_)
    | refine zPr.bw (S' := sX11_must) (by assumption) (mX11_must ..) (fun p hp => by simp only [sX11_must, sX11_finishes, List.mem_cons, List.not_mem_nil, or_false] at hp ⊢ <;> omega) (fun _ _ => ?_)
    | refine zPr.bnr (fun _ => ?_)
    | refine zPr.bnv (fun _ => ?_)
theorem mX11_finishes_53 (x1 : Int32) (x2 : Int32) (σ : zS) : zPr (sX11_finishes σ.2.2) σ id (fX11_finishes_53 x1 x2 σ) := by
  unfold fX11_finishes_53
  have hc := zSm.rfl (sX11_finishes σ.2.2) σ
  repeat' first
    | exact zPr.none
    | exact zPr.some (by assumption)
    | refine zPr.ite ?_ ?_
    | refine zPr.wI (by assumption) (by simp only [sX11_finishes, List.mem_cons, List.not_mem_nil, or_false]; omega) (fun _ _ => ?_)
    | refine zPr.wL (by assumption) (by simp only [sX11_finishes, List.mem_cons, List.not_mem_nil, or_false]; omega) (fun _ _ => ?_)
    | refine zPr.bI (by assumption) (by simp only [sX11_finishes, List.mem_cons, List.not_mem_nil, or_false]; omega) (fun _ _ => ?_)
    | refine zPr.bL (by assumption) (by simp only [sX11_finishes, List.mem_cons, List.not_mem_nil, or_false]; omega) (fun _ _ => ?_)
    | refine zPr.wC (by assumption) (by simp only [sX11_finishes, List.mem_cons, List.not_mem_nil, or_false]; omega) (fun _ _ => ?_)
    | refine zPr.aI (fun _ => ?_)
    | refine zPr.aL (fun _ => ?_)
    | refine zPr.gd ?_
    | refine zPr.bw (S' := sX11_blame) (by assumption) (mX11_blame ..) (fun p hp => by simp only [sX11_blame, sX11_finishes, List.mem_cons, List.not_mem_nil, or_false] at hp ⊢ <;> omega) (fun _ _ => ?_)
    | refine zPr.bw (S' := sX11_lex) (by assumption) (mX11_lex ..) (fun p hp => by simp only [sX11_lex, sX11_finishes, List.mem_cons, List.not_mem_nil, or_false] at hp ⊢ <;> omega) (fun _ _ => ?_)
    | refine zPr.bw (S' := sX11_must) (by assumption) (mX11_must ..) (fun p hp => by simp only [sX11_must, sX11_finishes, List.mem_cons, List.not_mem_nil, or_false] at hp ⊢ <;> omega) (fun _ _ => ?_)
    | refine zPr.bnr (fun _ => ?_)
    | refine zPr.bnv (fun _ => ?_)
    | exact zPr.tail (S' := sX11_finishes) (by assumption) (mX11_finishes_83 ..) (fun _ h => h)
theorem mX11_finishes_47 (r17 : Int32 → Int32 → zS → Option zS) (hr17 : ∀ (x0 : Int32) (x1 : Int32) (σ : zS), zPr (sX11_finishes σ.2.2) σ id (r17 x0 x1 σ)) (x1 : Int32) (x2 : Int32) (σ : zS) : zPr (sX11_finishes σ.2.2) σ id (fX11_finishes_47 r17 x1 x2 σ) := by
  unfold fX11_finishes_47
  have hc := zSm.rfl (sX11_finishes σ.2.2) σ
  repeat' first
    | exact zPr.none
    | exact zPr.some (by assumption)
    | refine zPr.ite ?_ ?_
    | refine zPr.wI (by assumption) (by simp only [sX11_finishes, List.mem_cons, List.not_mem_nil, or_false]; omega) (fun _ _ => ?_)
    | refine zPr.wL (by assumption) (by simp only [sX11_finishes, List.mem_cons, List.not_mem_nil, or_false]; omega) (fun _ _ => ?_)
    | refine zPr.bI (by assumption) (by simp only [sX11_finishes, List.mem_cons, List.not_mem_nil, or_false]; omega) (fun _ _ => ?_)
    | refine zPr.bL (by assumption) (by simp only [sX11_finishes, List.mem_cons, List.not_mem_nil, or_false]; omega) (fun _ _ => ?_)
    | refine zPr.wC (by assumption) (by simp only [sX11_finishes, List.mem_cons, List.not_mem_nil, or_false]; omega) (fun _ _ => ?_)
    | refine zPr.aI (fun _ => ?_)
    | refine zPr.aL (fun _ => ?_)
    | refine zPr.gd ?_
    | refine zPr.bw (S' := sX11_blame) (by assumption) (mX11_blame ..) (fun p hp => by simp only [sX11_blame, sX11_finishes, List.mem_cons, List.not_mem_nil, or_false] at hp ⊢ <;> omega) (fun _ _ => ?_)
    | refine zPr.bw (S' := sX11_lex) (by assumption) (mX11_lex ..) (fun p hp => by simp only [sX11_lex, sX11_finishes, List.mem_cons, List.not_mem_nil, or_false] at hp ⊢ <;> omega) (fun _ _ => ?_)
    | refine zPr.bw (S' := sX11_must) (by assumption) (mX11_must ..) (fun p hp => by simp only [sX11_must, sX11_finishes, List.mem_cons, List.not_mem_nil, or_false] at hp ⊢ <;> omega) (fun _ _ => ?_)
    | refine zPr.bnr (fun _ => ?_)
    | refine zPr.bnv (fun _ => ?_)
    | exact zPr.tail (S' := sX11_finishes) (by assumption) (hr17 ..) (fun _ h => h)
    | exact zPr.tail (S' := sX11_finishes) (by assumption) (mX11_finishes_83 ..) (fun _ h => h)
    | exact zPr.tail (S' := sX11_finishes) (by assumption) (mX11_finishes_53 ..) (fun _ h => h)
theorem mX11_finishes_17 : ∀ (fuel : Nat) (x1 : Int32) (x2 : Int32) (σ : zS), zPr (sX11_finishes σ.2.2) σ id (fX11_finishes_17 fuel x1 x2 σ) := by
  intro fuel
  induction fuel with
  | zero => intro x1 x2 σ; exact zPr.none
  | succ f ih =>
    intro x1 x2 σ
    rw [fX11_finishes_17]
    have hc := zSm.rfl (sX11_finishes σ.2.2) σ
    repeat' first
      | exact zPr.none
      | exact zPr.some (by assumption)
      | refine zPr.ite ?_ ?_
      | refine zPr.wI (by assumption) (by simp only [sX11_finishes, List.mem_cons, List.not_mem_nil, or_false]; omega) (fun _ _ => ?_)
      | refine zPr.wL (by assumption) (by simp only [sX11_finishes, List.mem_cons, List.not_mem_nil, or_false]; omega) (fun _ _ => ?_)
      | refine zPr.bI (by assumption) (by simp only [sX11_finishes, List.mem_cons, List.not_mem_nil, or_false]; omega) (fun _ _ => ?_)
      | refine zPr.bL (by assumption) (by simp only [sX11_finishes, List.mem_cons, List.not_mem_nil, or_false]; omega) (fun _ _ => ?_)
      | refine zPr.wC (by assumption) (by simp only [sX11_finishes, List.mem_cons, List.not_mem_nil, or_false]; omega) (fun _ _ => ?_)
      | refine zPr.aI (fun _ => ?_)
      | refine zPr.aL (fun _ => ?_)
      | refine zPr.gd ?_
      | refine zPr.bw (S' := sX11_blame) (by assumption) (mX11_blame ..) (fun p hp => by simp only [sX11_blame, sX11_finishes, List.mem_cons, List.not_mem_nil, or_false] at hp ⊢ <;> omega) (fun _ _ => ?_)
      | refine zPr.bw (S' := sX11_lex) (by assumption) (mX11_lex ..) (fun p hp => by simp only [sX11_lex, sX11_finishes, List.mem_cons, List.not_mem_nil, or_false] at hp ⊢ <;> omega) (fun _ _ => ?_)
      | refine zPr.bw (S' := sX11_must) (by assumption) (mX11_must ..) (fun p hp => by simp only [sX11_must, sX11_finishes, List.mem_cons, List.not_mem_nil, or_false] at hp ⊢ <;> omega) (fun _ _ => ?_)
      | refine zPr.bnr (fun _ => ?_)
      | refine zPr.bnv (fun _ => ?_)
      | exact zPr.tail (S' := sX11_finishes) (by assumption) (ih ..) (fun _ h => h)
      | exact zPr.tail (S' := sX11_finishes) (by assumption) (mX11_finishes_83 ..) (fun _ h => h)
      | exact zPr.tail (S' := sX11_finishes) (by assumption) (mX11_finishes_53 ..) (fun _ h => h)
      | exact zPr.tail (S' := sX11_finishes) (by assumption) (mX11_finishes_47 _ (by first | assumption | exact ih | (intros; apply ih) | (intros; apply mX11_finishes_17)) ..) (fun _ h => h)
theorem mX11_finishes (p1 : Int32) (σ : zS) : zPr (sX11_finishes σ.2.2) σ id (fX11_finishes p1 σ) := by
  unfold fX11_finishes
  have hc := zSm.rfl (sX11_finishes σ.2.2) σ
  repeat' first
    | exact zPr.none
    | exact zPr.some (by assumption)
    | refine zPr.ite ?_ ?_
    | refine zPr.wI (by assumption) (by simp only [sX11_finishes, List.mem_cons, List.not_mem_nil, or_false]; omega) (fun _ _ => ?_)
    | refine zPr.wL (by assumption) (by simp only [sX11_finishes, List.mem_cons, List.not_mem_nil, or_false]; omega) (fun _ _ => ?_)
    | refine zPr.bI (by assumption) (by simp only [sX11_finishes, List.mem_cons, List.not_mem_nil, or_false]; omega) (fun _ _ => ?_)
    | refine zPr.bL (by assumption) (by simp only [sX11_finishes, List.mem_cons, List.not_mem_nil, or_false]; omega) (fun _ _ => ?_)
    | refine zPr.wC (by assumption) (by simp only [sX11_finishes, List.mem_cons, List.not_mem_nil, or_false]; omega) (fun _ _ => ?_)
    | refine zPr.aI (fun _ => ?_)
    | refine zPr.aL (fun _ => ?_)
    | refine zPr.gd ?_
    | refine zPr.bw (S' := sX11_blame) (by assumption) (mX11_blame ..) (fun p hp => by simp only [sX11_blame, sX11_finishes, List.mem_cons, List.not_mem_nil, or_false] at hp ⊢ <;> omega) (fun _ _ => ?_)
    | refine zPr.bw (S' := sX11_lex) (by assumption) (mX11_lex ..) (fun p hp => by simp only [sX11_lex, sX11_finishes, List.mem_cons, List.not_mem_nil, or_false] at hp ⊢ <;> omega) (fun _ _ => ?_)
    | refine zPr.bw (S' := sX11_must) (by assumption) (mX11_must ..) (fun p hp => by simp only [sX11_must, sX11_finishes, List.mem_cons, List.not_mem_nil, or_false] at hp ⊢ <;> omega) (fun _ _ => ?_)
    | refine zPr.bnr (fun _ => ?_)
    | refine zPr.bnv (fun _ => ?_)
    | exact zPr.tail (S' := sX11_finishes) (by assumption) (mX11_finishes_83 ..) (fun _ h => h)
    | exact zPr.tail (S' := sX11_finishes) (by assumption) (mX11_finishes_53 ..) (fun _ h => h)
    | exact zPr.tail (S' := sX11_finishes) (by assumption) (mX11_finishes_47 _ (by first | assumption | exact ih | (intros; apply ih) | (intros; apply mX11_finishes_17)) ..) (fun _ h => h)
    | exact zPr.tail (S' := sX11_finishes) (by assumption) (mX11_finishes_17 ..) (fun _ h => h)
def sX11_begin (t : Bool × Bool × Bool) : List Nat := [56, 85, 86, 87, 88, 89, 90]
theorem mX11_begin_87 : ∀ (fuel : Nat) (x1 : Int32) (σ : zS), zPr (sX11_begin σ.2.2) σ id (fX11_begin_87 fuel x1 σ) := by
  intro fuel
  induction fuel with
  | zero => intro x1 σ; exact zPr.none
  | succ f ih =>
    intro x1 σ
    rw [fX11_begin_87]
    have hc := zSm.rfl (sX11_begin σ.2.2) σ
    repeat' first
      | exact zPr.none
      | exact zPr.some (by assumption)
      | refine zPr.ite ?_ ?_
      | refine zPr.wI (by assumption) (by simp only [sX11_begin, List.mem_cons, List.not_mem_nil, or_false]; omega) (fun _ _ => ?_)
      | refine zPr.wL (by assumption) (by simp only [sX11_begin, List.mem_cons, List.not_mem_nil, or_false]; omega) (fun _ _ => ?_)
      | refine zPr.bI (by assumption) (by simp only [sX11_begin, List.mem_cons, List.not_mem_nil, or_false]; omega) (fun _ _ => ?_)
      | refine zPr.bL (by assumption) (by simp only [sX11_begin, List.mem_cons, List.not_mem_nil, or_false]; omega) (fun _ _ => ?_)
      | refine zPr.wC (by assumption) (by simp only [sX11_begin, List.mem_cons, List.not_mem_nil, or_false]; omega) (fun _ _ => ?_)
      | refine zPr.aI (fun _ => ?_)
      | refine zPr.aL (fun _ => ?_)
      | refine zPr.gd ?_
      | refine zPr.bnr (fun _ => ?_)
      | refine zPr.bnv (fun _ => ?_)
      | exact zPr.tail (S' := sX11_begin) (by assumption) (ih ..) (fun _ h => h)
theorem mX11_begin_26 : ∀ (fuel : Nat) (x1 : Int32) (σ : zS), zPr (sX11_begin σ.2.2) σ id (fX11_begin_26 fuel x1 σ) := by
  intro fuel
  induction fuel with
  | zero => intro x1 σ; exact zPr.none
  | succ f ih =>
    intro x1 σ
    rw [fX11_begin_26]
    have hc := zSm.rfl (sX11_begin σ.2.2) σ
    repeat' first
      | exact zPr.none
      | exact zPr.some (by assumption)
      | refine zPr.ite ?_ ?_
      | refine zPr.wI (by assumption) (by simp only [sX11_begin, List.mem_cons, List.not_mem_nil, or_false]; omega) (fun _ _ => ?_)
      | refine zPr.wL (by assumption) (by simp only [sX11_begin, List.mem_cons, List.not_mem_nil, or_false]; omega) (fun _ _ => ?_)
      | refine zPr.bI (by assumption) (by simp only [sX11_begin, List.mem_cons, List.not_mem_nil, or_false]; omega) (fun _ _ => ?_)
      | refine zPr.bL (by assumption) (by simp only [sX11_begin, List.mem_cons, List.not_mem_nil, or_false]; omega) (fun _ _ => ?_)
      | refine zPr.wC (by assumption) (by simp only [sX11_begin, List.mem_cons, List.not_mem_nil, or_false]; omega) (fun _ _ => ?_)
      | refine zPr.aI (fun _ => ?_)
      | refine zPr.aL (fun _ => ?_)
      | refine zPr.gd ?_
      | refine zPr.bnr (fun _ => ?_)
      | refine zPr.bnv (fun _ => ?_)
      | exact zPr.tail (S' := sX11_begin) (by assumption) (ih ..) (fun _ h => h)
      | exact zPr.tail (S' := sX11_begin) (by assumption) (mX11_begin_87 ..) (fun _ h => h)
theorem mX11_begin (σ : zS) : zPr (sX11_begin σ.2.2) σ id (fX11_begin σ) := by
  unfold fX11_begin
  have hc := zSm.rfl (sX11_begin σ.2.2) σ
  repeat' first
    | exact zPr.none
    | exact zPr.some (by assumption)
    | refine zPr.ite ?_ ?_
    | refine zPr.wI (by assumption) (by simp only [sX11_begin, List.mem_cons, List.not_mem_nil, or_false]; omega) (fun _ _ => ?_)
    | refine zPr.wL (by assumption) (by simp only [sX11_begin, List.mem_cons, List.not_mem_nil, or_false]; omega) (fun _ _ => ?_)
    | refine zPr.bI (by assumption) (by simp only [sX11_begin, List.mem_cons, List.not_mem_nil, or_false]; omega) (fun _ _ => ?_)
    | refine zPr.bL (by assumption) (by simp only [sX11_begin, List.mem_cons, List.not_mem_nil, or_false]; omega) (fun _ _ => ?_)
    | refine zPr.wC (by assumption) (by simp only [sX11_begin, List.mem_cons, List.not_mem_nil, or_false]; omega) (fun _ _ => ?_)
    | refine zPr.aI (fun _ => ?_)
    | refine zPr.aL (fun _ => ?_)
    | refine zPr.gd ?_
    | refine zPr.bnr (fun _ => ?_)
    | refine zPr.bnv (fun _ => ?_)
    | exact zPr.tail (S' := sX11_begin) (by assumption) (mX11_begin_87 ..) (fun _ h => h)
    | exact zPr.tail (S' := sX11_begin) (by assumption) (mX11_begin_26 ..) (fun _ h => h)
def sX11_road (t : Bool × Bool × Bool) : List Nat := [56, 58, 59, 60, 61, 62, 63, 64, 65, 66, 67, 68, 69, 70, 71, 72, 73, 74, 75, 76, 77, 78, 79, 80, 81, 82, 83, 84, 85, 86, 87, 88, 89, 90]
theorem mX11_road_138 (x1 : Int32) (σ : zS) : zPr (sX11_road σ.2.2) σ Prod.snd (fX11_road_138 x1 σ) := by
  unfold fX11_road_138
  have hc := zSm.rfl (sX11_road σ.2.2) σ
  repeat' first
    | exact zPr.none
    | exact zPr.some (by assumption)
    | refine zPr.ite ?_ ?_
    | refine zPr.wI (by assumption) (by simp only [sX11_road, List.mem_cons, List.not_mem_nil, or_false]; omega) (fun _ _ => ?_)
    | refine zPr.wL (by assumption) (by simp only [sX11_road, List.mem_cons, List.not_mem_nil, or_false]; omega) (fun _ _ => ?_)
    | refine zPr.bI (by assumption) (by simp only [sX11_road, List.mem_cons, List.not_mem_nil, or_false]; omega) (fun _ _ => ?_)
    | refine zPr.bL (by assumption) (by simp only [sX11_road, List.mem_cons, List.not_mem_nil, or_false]; omega) (fun _ _ => ?_)
    | refine zPr.wC (by assumption) (by simp only [sX11_road, List.mem_cons, List.not_mem_nil, or_false]; omega) (fun _ _ => ?_)
    | refine zPr.aI (fun _ => ?_)
    | refine zPr.aL (fun _ => ?_)
    | refine zPr.gd ?_
    | refine zPr.bw (S' := sX11_ahead) (by assumption) (mX11_ahead ..) (fun p hp => by simp only [sX11_ahead, sX11_road, List.mem_cons, List.not_mem_nil, or_false] at hp ⊢ <;> omega) (fun _ _ => ?_)
    | refine zPr.bw (S' := sX11_begin) (by assumption) (mX11_begin ..) (fun p hp => by simp only [sX11_begin, sX11_road, List.mem_cons, List.not_mem_nil, or_false] at hp ⊢ <;> omega) (fun _ _ => ?_)
    | refine zPr.bw (S' := sX11_finishes) (by assumption) (mX11_finishes ..) (fun p hp => by simp only [sX11_finishes, sX11_road, List.mem_cons, List.not_mem_nil, or_false] at hp ⊢ <;> omega) (fun _ _ => ?_)
    | refine zPr.bc (S' := sX11_refuses) (by assumption) (mX11_refuses ..) (fun p hp => by simp only [sX11_refuses, sX11_road, List.mem_cons, List.not_mem_nil, or_false] at hp ⊢ <;> omega) (fun _ _ _ => ?_)
    | refine zPr.bw (S' := sX11_statement) (by assumption) (mX11_statement ..) (fun p hp => by simp only [sX11_statement, sX11_road, List.mem_cons, List.not_mem_nil, or_false] at hp ⊢ <;> omega) (fun _ _ => ?_)
    | refine zPr.bnr (fun _ => ?_)
    | refine zPr.bnv (fun _ => ?_)
theorem mX11_road_109 : ∀ (fuel : Nat) (x1 : Int32) (σ : zS), zPr (sX11_road σ.2.2) σ Prod.snd (fX11_road_109 fuel x1 σ) := by
  intro fuel
  induction fuel with
  | zero => intro x1 σ; exact zPr.none
  | succ f ih =>
    intro x1 σ
    rw [fX11_road_109]
    have hc := zSm.rfl (sX11_road σ.2.2) σ
    repeat' first
      | exact zPr.none
      | exact zPr.some (by assumption)
      | refine zPr.ite ?_ ?_
      | refine zPr.wI (by assumption) (by simp only [sX11_road, List.mem_cons, List.not_mem_nil, or_false]; omega) (fun _ _ => ?_)
      | refine zPr.wL (by assumption) (by simp only [sX11_road, List.mem_cons, List.not_mem_nil, or_false]; omega) (fun _ _ => ?_)
      | refine zPr.bI (by assumption) (by simp only [sX11_road, List.mem_cons, List.not_mem_nil, or_false]; omega) (fun _ _ => ?_)
      | refine zPr.bL (by assumption) (by simp only [sX11_road, List.mem_cons, List.not_mem_nil, or_false]; omega) (fun _ _ => ?_)
      | refine zPr.wC (by assumption) (by simp only [sX11_road, List.mem_cons, List.not_mem_nil, or_false]; omega) (fun _ _ => ?_)
      | refine zPr.aI (fun _ => ?_)
      | refine zPr.aL (fun _ => ?_)
      | refine zPr.gd ?_
      | refine zPr.bw (S' := sX11_ahead) (by assumption) (mX11_ahead ..) (fun p hp => by simp only [sX11_ahead, sX11_road, List.mem_cons, List.not_mem_nil, or_false] at hp ⊢ <;> omega) (fun _ _ => ?_)
      | refine zPr.bw (S' := sX11_begin) (by assumption) (mX11_begin ..) (fun p hp => by simp only [sX11_begin, sX11_road, List.mem_cons, List.not_mem_nil, or_false] at hp ⊢ <;> omega) (fun _ _ => ?_)
      | refine zPr.bw (S' := sX11_finishes) (by assumption) (mX11_finishes ..) (fun p hp => by simp only [sX11_finishes, sX11_road, List.mem_cons, List.not_mem_nil, or_false] at hp ⊢ <;> omega) (fun _ _ => ?_)
      | refine zPr.bc (S' := sX11_refuses) (by assumption) (mX11_refuses ..) (fun p hp => by simp only [sX11_refuses, sX11_road, List.mem_cons, List.not_mem_nil, or_false] at hp ⊢ <;> omega) (fun _ _ _ => ?_)
      | refine zPr.bw (S' := sX11_statement) (by assumption) (mX11_statement ..) (fun p hp => by simp only [sX11_statement, sX11_road, List.mem_cons, List.not_mem_nil, or_false] at hp ⊢ <;> omega) (fun _ _ => ?_)
      | refine zPr.bnr (fun _ => ?_)
      | refine zPr.bnv (fun _ => ?_)
      | exact zPr.tail (S' := sX11_road) (by assumption) (ih ..) (fun _ h => h)
      | exact zPr.tail (S' := sX11_road) (by assumption) (mX11_road_138 ..) (fun _ h => h)
theorem mX11_road (σ : zS) : zPr (sX11_road σ.2.2) σ Prod.snd (fX11_road σ) := by
  unfold fX11_road
  have hc := zSm.rfl (sX11_road σ.2.2) σ
  repeat' first
    | exact zPr.none
    | exact zPr.some (by assumption)
    | refine zPr.ite ?_ ?_
    | refine zPr.wI (by assumption) (by simp only [sX11_road, List.mem_cons, List.not_mem_nil, or_false]; omega) (fun _ _ => ?_)
    | refine zPr.wL (by assumption) (by simp only [sX11_road, List.mem_cons, List.not_mem_nil, or_false]; omega) (fun _ _ => ?_)
    | refine zPr.bI (by assumption) (by simp only [sX11_road, List.mem_cons, List.not_mem_nil, or_false]; omega) (fun _ _ => ?_)
    | refine zPr.bL (by assumption) (by simp only [sX11_road, List.mem_cons, List.not_mem_nil, or_false]; omega) (fun _ _ => ?_)
    | refine zPr.wC (by assumption) (by simp only [sX11_road, List.mem_cons, List.not_mem_nil, or_false]; omega) (fun _ _ => ?_)
    | refine zPr.aI (fun _ => ?_)
    | refine zPr.aL (fun _ => ?_)
    | refine zPr.gd ?_
    | refine zPr.bw (S' := sX11_ahead) (by assumption) (mX11_ahead ..) (fun p hp => by simp only [sX11_ahead, sX11_road, List.mem_cons, List.not_mem_nil, or_false] at hp ⊢ <;> omega) (fun _ _ => ?_)
    | refine zPr.bw (S' := sX11_begin) (by assumption) (mX11_begin ..) (fun p hp => by simp only [sX11_begin, sX11_road, List.mem_cons, List.not_mem_nil, or_false] at hp ⊢ <;> omega) (fun _ _ => ?_)
    | refine zPr.bw (S' := sX11_finishes) (by assumption) (mX11_finishes ..) (fun p hp => by simp only [sX11_finishes, sX11_road, List.mem_cons, List.not_mem_nil, or_false] at hp ⊢ <;> omega) (fun _ _ => ?_)
    | refine zPr.bc (S' := sX11_refuses) (by assumption) (mX11_refuses ..) (fun p hp => by simp only [sX11_refuses, sX11_road, List.mem_cons, List.not_mem_nil, or_false] at hp ⊢ <;> omega) (fun _ _ _ => ?_)
    | refine zPr.bw (S' := sX11_statement) (by assumption) (mX11_statement ..) (fun p hp => by simp only [sX11_statement, sX11_road, List.mem_cons, List.not_mem_nil, or_false] at hp ⊢ <;> omega) (fun _ _ => ?_)
    | refine zPr.bnr (fun _ => ?_)
    | refine zPr.bnv (fun _ => ?_)
    | exact zPr.tail (S' := sX11_road) (by assumption) (mX11_road_138 ..) (fun _ h => h)
    | exact zPr.tail (S' := sX11_road) (by assumption) (mX11_road_109 ..) (fun _ h => h)
def sX11_copies (t : Bool × Bool × Bool) : List Nat := [85, 86, 87, 88, 89, 90, 91, 92, 93, 94]
theorem mX11_copies_142 : ∀ (fuel : Nat) (x1 : Int32) (x2 : Int32) (x3 : Int32) (σ : zS), zPr (sX11_copies σ.2.2) σ id (fX11_copies_142 fuel x1 x2 x3 σ) := by
  intro fuel
  induction fuel with
  | zero => intro x1 x2 x3 σ; exact zPr.none
  | succ f ih =>
    intro x1 x2 x3 σ
    rw [fX11_copies_142]
    have hc := zSm.rfl (sX11_copies σ.2.2) σ
    repeat' first
      | exact zPr.none
      | exact zPr.some (by assumption)
      | refine zPr.ite ?_ ?_
      | refine zPr.wI (by assumption) (by simp only [sX11_copies, List.mem_cons, List.not_mem_nil, or_false]; omega) (fun _ _ => ?_)
      | refine zPr.wL (by assumption) (by simp only [sX11_copies, List.mem_cons, List.not_mem_nil, or_false]; omega) (fun _ _ => ?_)
      | refine zPr.bI (by assumption) (by simp only [sX11_copies, List.mem_cons, List.not_mem_nil, or_false]; omega) (fun _ _ => ?_)
      | refine zPr.bL (by assumption) (by simp only [sX11_copies, List.mem_cons, List.not_mem_nil, or_false]; omega) (fun _ _ => ?_)
      | refine zPr.wC (by assumption) (by simp only [sX11_copies, List.mem_cons, List.not_mem_nil, or_false]; omega) (fun _ _ => ?_)
      | refine zPr.aI (fun _ => ?_)
      | refine zPr.aL (fun _ => ?_)
      | refine zPr.gd ?_
      | refine zPr.bnr (fun _ => ?_)
      | refine zPr.bnv (fun _ => ?_)
      | exact zPr.tail (S' := sX11_copies) (by assumption) (ih ..) (fun _ h => h)
theorem mX11_copies_94 : ∀ (fuel : Nat) (x1 : Int32) (x2 : Int32) (x3 : Int32) (σ : zS), zPr (sX11_copies σ.2.2) σ id (fX11_copies_94 fuel x1 x2 x3 σ) := by
  intro fuel
  induction fuel with
  | zero => intro x1 x2 x3 σ; exact zPr.none
  | succ f ih =>
    intro x1 x2 x3 σ
    rw [fX11_copies_94]
    have hc := zSm.rfl (sX11_copies σ.2.2) σ
    repeat' first
      | exact zPr.none
      | exact zPr.some (by assumption)
      | refine zPr.ite ?_ ?_
      | refine zPr.wI (by assumption) (by simp only [sX11_copies, List.mem_cons, List.not_mem_nil, or_false]; omega) (fun _ _ => ?_)
      | refine zPr.wL (by assumption) (by simp only [sX11_copies, List.mem_cons, List.not_mem_nil, or_false]; omega) (fun _ _ => ?_)
      | refine zPr.bI (by assumption) (by simp only [sX11_copies, List.mem_cons, List.not_mem_nil, or_false]; omega) (fun _ _ => ?_)
      | refine zPr.bL (by assumption) (by simp only [sX11_copies, List.mem_cons, List.not_mem_nil, or_false]; omega) (fun _ _ => ?_)
      | refine zPr.wC (by assumption) (by simp only [sX11_copies, List.mem_cons, List.not_mem_nil, or_false]; omega) (fun _ _ => ?_)
      | refine zPr.aI (fun _ => ?_)
      | refine zPr.aL (fun _ => ?_)
      | refine zPr.gd ?_
      | refine zPr.bnr (fun _ => ?_)
      | refine zPr.bnv (fun _ => ?_)
      | exact zPr.tail (S' := sX11_copies) (by assumption) (ih ..) (fun _ h => h)
      | exact zPr.tail (S' := sX11_copies) (by assumption) (mX11_copies_142 ..) (fun _ h => h)
theorem mX11_copies_14 : ∀ (fuel : Nat) (x1 : Int32) (x2 : Int32) (x3 : Int32) (σ : zS), zPr (sX11_copies σ.2.2) σ id (fX11_copies_14 fuel x1 x2 x3 σ) := by
  intro fuel
  induction fuel with
  | zero => intro x1 x2 x3 σ; exact zPr.none
  | succ f ih =>
    intro x1 x2 x3 σ
    rw [fX11_copies_14]
    have hc := zSm.rfl (sX11_copies σ.2.2) σ
    repeat' first
      | exact zPr.none
      | exact zPr.some (by assumption)
      | refine zPr.ite ?_ ?_
      | refine zPr.wI (by assumption) (by simp only [sX11_copies, List.mem_cons, List.not_mem_nil, or_false]; omega) (fun _ _ => ?_)
      | refine zPr.wL (by assumption) (by simp only [sX11_copies, List.mem_cons, List.not_mem_nil, or_false]; omega) (fun _ _ => ?_)
      | refine zPr.bI (by assumption) (by simp only [sX11_copies, List.mem_cons, List.not_mem_nil, or_false]; omega) (fun _ _ => ?_)
      | refine zPr.bL (by assumption) (by simp only [sX11_copies, List.mem_cons, List.not_mem_nil, or_false]; omega) (fun _ _ => ?_)
      | refine zPr.wC (by assumption) (by simp only [sX11_copies, List.mem_cons, List.not_mem_nil, or_false]; omega) (fun _ _ => ?_)
      | refine zPr.aI (fun _ => ?_)
      | refine zPr.aL (fun _ => ?_)
      | refine zPr.gd ?_
      | refine zPr.bnr (fun _ => ?_)
      | refine zPr.bnv (fun _ => ?_)
      | exact zPr.tail (S' := sX11_copies) (by assumption) (ih ..) (fun _ h => h)
      | exact zPr.tail (S' := sX11_copies) (by assumption) (mX11_copies_142 ..) (fun _ h => h)
      | exact zPr.tail (S' := sX11_copies) (by assumption) (mX11_copies_94 ..) (fun _ h => h)
theorem mX11_copies (p1 : Int32) (p2 : Int32) (σ : zS) : zPr (sX11_copies σ.2.2) σ id (fX11_copies p1 p2 σ) := by
  unfold fX11_copies
  have hc := zSm.rfl (sX11_copies σ.2.2) σ
  repeat' first
    | exact zPr.none
    | exact zPr.some (by assumption)
    | refine zPr.ite ?_ ?_
    | refine zPr.wI (by assumption) (by simp only [sX11_copies, List.mem_cons, List.not_mem_nil, or_false]; omega) (fun _ _ => ?_)
    | refine zPr.wL (by assumption) (by simp only [sX11_copies, List.mem_cons, List.not_mem_nil, or_false]; omega) (fun _ _ => ?_)
    | refine zPr.bI (by assumption) (by simp only [sX11_copies, List.mem_cons, List.not_mem_nil, or_false]; omega) (fun _ _ => ?_)
    | refine zPr.bL (by assumption) (by simp only [sX11_copies, List.mem_cons, List.not_mem_nil, or_false]; omega) (fun _ _ => ?_)
    | refine zPr.wC (by assumption) (by simp only [sX11_copies, List.mem_cons, List.not_mem_nil, or_false]; omega) (fun _ _ => ?_)
    | refine zPr.aI (fun _ => ?_)
    | refine zPr.aL (fun _ => ?_)
    | refine zPr.gd ?_
    | refine zPr.bnr (fun _ => ?_)
    | refine zPr.bnv (fun _ => ?_)
    | exact zPr.tail (S' := sX11_copies) (by assumption) (mX11_copies_142 ..) (fun _ h => h)
    | exact zPr.tail (S' := sX11_copies) (by assumption) (mX11_copies_94 ..) (fun _ h => h)
    | exact zPr.tail (S' := sX11_copies) (by assumption) (mX11_copies_14 ..) (fun _ h => h)
def sX11_keeps (t : Bool × Bool × Bool) : List Nat := [56, 85, 86, 87, 88, 89, 90, 91, 92, 93, 94]
theorem mX11_keeps_32 (σ : zS) : zPr (sX11_keeps σ.2.2) σ id (fX11_keeps_32 σ) := by
  unfold fX11_keeps_32
  have hc := zSm.rfl (sX11_keeps σ.2.2) σ
  repeat' first
    | exact zPr.none
    | exact zPr.some (by assumption)
    | refine zPr.ite ?_ ?_
    | refine zPr.wI (by assumption) (by simp only [sX11_keeps, List.mem_cons, List.not_mem_nil, or_false]; omega) (fun _ _ => ?_)
    | refine zPr.wL (by assumption) (by simp only [sX11_keeps, List.mem_cons, List.not_mem_nil, or_false]; omega) (fun _ _ => ?_)
    | refine zPr.bI (by assumption) (by simp only [sX11_keeps, List.mem_cons, List.not_mem_nil, or_false]; omega) (fun _ _ => ?_)
    | refine zPr.bL (by assumption) (by simp only [sX11_keeps, List.mem_cons, List.not_mem_nil, or_false]; omega) (fun _ _ => ?_)
    | refine zPr.wC (by assumption) (by simp only [sX11_keeps, List.mem_cons, List.not_mem_nil, or_false]; omega) (fun _ _ => ?_)
    | refine zPr.aI (fun _ => ?_)
    | refine zPr.aL (fun _ => ?_)
    | refine zPr.gd ?_
    | refine zPr.bw (S' := sX11_copies) (by assumption) (mX11_copies ..) (fun p hp => by simp only [sX11_copies, sX11_keeps, List.mem_cons, List.not_mem_nil, or_false] at hp ⊢ <;> omega) (fun _ _ => ?_)
    | refine zPr.bnr (fun _ => ?_)
    | refine zPr.bnv (fun _ => ?_)
theorem mX11_keeps (σ : zS) : zPr (sX11_keeps σ.2.2) σ id (fX11_keeps σ) := by
  unfold fX11_keeps
  have hc := zSm.rfl (sX11_keeps σ.2.2) σ
  repeat' first
    | exact zPr.none
    | exact zPr.some (by assumption)
    | refine zPr.ite ?_ ?_
    | refine zPr.wI (by assumption) (by simp only [sX11_keeps, List.mem_cons, List.not_mem_nil, or_false]; omega) (fun _ _ => ?_)
    | refine zPr.wL (by assumption) (by simp only [sX11_keeps, List.mem_cons, List.not_mem_nil, or_false]; omega) (fun _ _ => ?_)
    | refine zPr.bI (by assumption) (by simp only [sX11_keeps, List.mem_cons, List.not_mem_nil, or_false]; omega) (fun _ _ => ?_)
    | refine zPr.bL (by assumption) (by simp only [sX11_keeps, List.mem_cons, List.not_mem_nil, or_false]; omega) (fun _ _ => ?_)
    | refine zPr.wC (by assumption) (by simp only [sX11_keeps, List.mem_cons, List.not_mem_nil, or_false]; omega) (fun _ _ => ?_)
    | refine zPr.aI (fun _ => ?_)
    | refine zPr.aL (fun _ => ?_)
    | refine zPr.gd ?_
    | refine zPr.bw (S' := sX11_copies) (by assumption) (mX11_copies ..) (fun p hp => by simp only [sX11_copies, sX11_keeps, List.mem_cons, List.not_mem_nil, or_false] at hp ⊢ <;> omega) (fun _ _ => ?_)
    | refine zPr.bnr (fun _ => ?_)
    | refine zPr.bnv (fun _ => ?_)
    | exact zPr.tail (S' := sX11_keeps) (by assumption) (mX11_keeps_32 ..) (fun _ h => h)
def sX11_undo (t : Bool × Bool × Bool) : List Nat := [56, 84, 85, 86, 87, 88, 89, 90, 91, 92, 93, 94]
theorem mX11_undo (σ : zS) : zPr (sX11_undo σ.2.2) σ Prod.snd (fX11_undo σ) := by
  unfold fX11_undo
  have hc := zSm.rfl (sX11_undo σ.2.2) σ
  repeat' first
    | exact zPr.none
    | exact zPr.some (by assumption)
    | refine zPr.ite ?_ ?_
    | refine zPr.wI (by assumption) (by simp only [sX11_undo, List.mem_cons, List.not_mem_nil, or_false]; omega) (fun _ _ => ?_)
    | refine zPr.wL (by assumption) (by simp only [sX11_undo, List.mem_cons, List.not_mem_nil, or_false]; omega) (fun _ _ => ?_)
    | refine zPr.bI (by assumption) (by simp only [sX11_undo, List.mem_cons, List.not_mem_nil, or_false]; omega) (fun _ _ => ?_)
    | refine zPr.bL (by assumption) (by simp only [sX11_undo, List.mem_cons, List.not_mem_nil, or_false]; omega) (fun _ _ => ?_)
    | refine zPr.wC (by assumption) (by simp only [sX11_undo, List.mem_cons, List.not_mem_nil, or_false]; omega) (fun _ _ => ?_)
    | refine zPr.aI (fun _ => ?_)
    | refine zPr.aL (fun _ => ?_)
    | refine zPr.gd ?_
    | refine zPr.bw (S' := sX11_copies) (by assumption) (mX11_copies ..) (fun p hp => by simp only [sX11_copies, sX11_undo, List.mem_cons, List.not_mem_nil, or_false] at hp ⊢ <;> omega) (fun _ _ => ?_)
    | refine zPr.bc (S' := sX11_refuses) (by assumption) (mX11_refuses ..) (fun p hp => by simp only [sX11_refuses, sX11_undo, List.mem_cons, List.not_mem_nil, or_false] at hp ⊢ <;> omega) (fun _ _ _ => ?_)
    | refine zPr.bnr (fun _ => ?_)
    | refine zPr.bnv (fun _ => ?_)
def sX11_reckons (t : Bool × Bool × Bool) : List Nat := [95]
theorem mX11_reckons_179 (r14 : Int32 → Int32 → Int32 → zS → Option (Int64 × zS)) (hr14 : ∀ (x0 : Int32) (x1 : Int32) (x2 : Int32) (σ : zS), zPr (sX11_reckons σ.2.2) σ Prod.snd (r14 x0 x1 x2 σ)) (x2 : Int32) (x3 : Int32) (x4 : Int32) (σ : zS) : zPr (sX11_reckons σ.2.2) σ Prod.snd (fX11_reckons_179 r14 x2 x3 x4 σ) := by
  unfold fX11_reckons_179
  have hc := zSm.rfl (sX11_reckons σ.2.2) σ
  repeat' first
    | exact zPr.none
    | exact zPr.some (by assumption)
    | refine zPr.ite ?_ ?_
    | refine zPr.wI (by assumption) (by simp only [sX11_reckons, List.mem_cons, List.not_mem_nil, or_false]; omega) (fun _ _ => ?_)
    | refine zPr.wL (by assumption) (by simp only [sX11_reckons, List.mem_cons, List.not_mem_nil, or_false]; omega) (fun _ _ => ?_)
    | refine zPr.bI (by assumption) (by simp only [sX11_reckons, List.mem_cons, List.not_mem_nil, or_false]; omega) (fun _ _ => ?_)
    | refine zPr.bL (by assumption) (by simp only [sX11_reckons, List.mem_cons, List.not_mem_nil, or_false]; omega) (fun _ _ => ?_)
    | refine zPr.wC (by assumption) (by simp only [sX11_reckons, List.mem_cons, List.not_mem_nil, or_false]; omega) (fun _ _ => ?_)
    | refine zPr.aI (fun _ => ?_)
    | refine zPr.aL (fun _ => ?_)
    | refine zPr.gd ?_
    | refine zPr.bnr (fun _ => ?_)
    | refine zPr.bnv (fun _ => ?_)
    | exact zPr.tail (S' := sX11_reckons) (by assumption) (hr14 ..) (fun _ h => h)
theorem mX11_reckons_145 (r14 : Int32 → Int32 → Int32 → zS → Option (Int64 × zS)) (hr14 : ∀ (x0 : Int32) (x1 : Int32) (x2 : Int32) (σ : zS), zPr (sX11_reckons σ.2.2) σ Prod.snd (r14 x0 x1 x2 σ)) (x2 : Int32) (x3 : Int32) (x4 : Int32) (s0 : Int64) (s1 : Int32) (σ : zS) : zPr (sX11_reckons σ.2.2) σ Prod.snd (fX11_reckons_145 r14 x2 x3 x4 s0 s1 σ) := by
  unfold fX11_reckons_145
  have hc := zSm.rfl (sX11_reckons σ.2.2) σ
  repeat' first
    | exact zPr.none
    | exact zPr.some (by assumption)
    | refine zPr.ite ?_ ?_
    | refine zPr.wI (by assumption) (by simp only [sX11_reckons, List.mem_cons, List.not_mem_nil, or_false]; omega) (fun _ _ => ?_)
    | refine zPr.wL (by assumption) (by simp only [sX11_reckons, List.mem_cons, List.not_mem_nil, or_false]; omega) (fun _ _ => ?_)
    | refine zPr.bI (by assumption) (by simp only [sX11_reckons, List.mem_cons, List.not_mem_nil, or_false]; omega) (fun _ _ => ?_)
    | refine zPr.bL (by assumption) (by simp only [sX11_reckons, List.mem_cons, List.not_mem_nil, or_false]; omega) (fun _ _ => ?_)
    | refine zPr.wC (by assumption) (by simp only [sX11_reckons, List.mem_cons, List.not_mem_nil, or_false]; omega) (fun _ _ => ?_)
    | refine zPr.aI (fun _ => ?_)
    | refine zPr.aL (fun _ => ?_)
    | refine zPr.gd ?_
    | refine zPr.bnr (fun _ => ?_)
    | refine zPr.bnv (fun _ => ?_)
    | exact zPr.tail (S' := sX11_reckons) (by assumption) (hr14 ..) (fun _ h => h)
    | exact zPr.tail (S' := sX11_reckons) (by assumption) (mX11_reckons_179 _ (by first | assumption | exact ih | (intros; apply ih) | (intros; apply mX11_reckons_14)) ..) (fun _ h => h)
theorem mX11_reckons_14 : ∀ (fuel : Nat) (x2 : Int32) (x3 : Int32) (x4 : Int32) (σ : zS), zPr (sX11_reckons σ.2.2) σ Prod.snd (fX11_reckons_14 fuel x2 x3 x4 σ) := by
  intro fuel
  induction fuel with
  | zero => intro x2 x3 x4 σ; exact zPr.none
  | succ f ih =>
    intro x2 x3 x4 σ
    rw [fX11_reckons_14]
    have hc := zSm.rfl (sX11_reckons σ.2.2) σ
    repeat' first
      | exact zPr.none
      | exact zPr.some (by assumption)
      | refine zPr.ite ?_ ?_
      | refine zPr.wI (by assumption) (by simp only [sX11_reckons, List.mem_cons, List.not_mem_nil, or_false]; omega) (fun _ _ => ?_)
      | refine zPr.wL (by assumption) (by simp only [sX11_reckons, List.mem_cons, List.not_mem_nil, or_false]; omega) (fun _ _ => ?_)
      | refine zPr.bI (by assumption) (by simp only [sX11_reckons, List.mem_cons, List.not_mem_nil, or_false]; omega) (fun _ _ => ?_)
      | refine zPr.bL (by assumption) (by simp only [sX11_reckons, List.mem_cons, List.not_mem_nil, or_false]; omega) (fun _ _ => ?_)
      | refine zPr.wC (by assumption) (by simp only [sX11_reckons, List.mem_cons, List.not_mem_nil, or_false]; omega) (fun _ _ => ?_)
      | refine zPr.aI (fun _ => ?_)
      | refine zPr.aL (fun _ => ?_)
      | refine zPr.gd ?_
      | refine zPr.bnr (fun _ => ?_)
      | refine zPr.bnv (fun _ => ?_)
      | exact zPr.tail (S' := sX11_reckons) (by assumption) (ih ..) (fun _ h => h)
      | exact zPr.tail (S' := sX11_reckons) (by assumption) (mX11_reckons_179 _ (by first | assumption | exact ih | (intros; apply ih) | (intros; apply mX11_reckons_14)) ..) (fun _ h => h)
      | exact zPr.tail (S' := sX11_reckons) (by assumption) (mX11_reckons_145 _ (by first | assumption | exact ih | (intros; apply ih) | (intros; apply mX11_reckons_14)) ..) (fun _ h => h)
theorem mX11_reckons (p1 : Int32) (p2 : Int32) (σ : zS) : zPr (sX11_reckons σ.2.2) σ Prod.snd (fX11_reckons p1 p2 σ) := by
  unfold fX11_reckons
  have hc := zSm.rfl (sX11_reckons σ.2.2) σ
  repeat' first
    | exact zPr.none
    | exact zPr.some (by assumption)
    | refine zPr.ite ?_ ?_
    | refine zPr.wI (by assumption) (by simp only [sX11_reckons, List.mem_cons, List.not_mem_nil, or_false]; omega) (fun _ _ => ?_)
    | refine zPr.wL (by assumption) (by simp only [sX11_reckons, List.mem_cons, List.not_mem_nil, or_false]; omega) (fun _ _ => ?_)
    | refine zPr.bI (by assumption) (by simp only [sX11_reckons, List.mem_cons, List.not_mem_nil, or_false]; omega) (fun _ _ => ?_)
    | refine zPr.bL (by assumption) (by simp only [sX11_reckons, List.mem_cons, List.not_mem_nil, or_false]; omega) (fun _ _ => ?_)
    | refine zPr.wC (by assumption) (by simp only [sX11_reckons, List.mem_cons, List.not_mem_nil, or_false]; omega) (fun _ _ => ?_)
    | refine zPr.aI (fun _ => ?_)
    | refine zPr.aL (fun _ => ?_)
    | refine zPr.gd ?_
    | refine zPr.bnr (fun _ => ?_)
    | refine zPr.bnv (fun _ => ?_)
    | exact zPr.tail (S' := sX11_reckons) (by assumption) (mX11_reckons_179 _ (by first | assumption | exact ih | (intros; apply ih) | (intros; apply mX11_reckons_14)) ..) (fun _ h => h)
    | exact zPr.tail (S' := sX11_reckons) (by assumption) (mX11_reckons_145 _ (by first | assumption | exact ih | (intros; apply ih) | (intros; apply mX11_reckons_14)) ..) (fun _ h => h)
    | exact zPr.tail (S' := sX11_reckons) (by assumption) (mX11_reckons_14 ..) (fun _ h => h)
def sX11_asks (t : Bool × Bool × Bool) : List Nat := [56]
theorem mX11_asks (p1 : Int32) (p2 : Int32) (p3 : Int32) (p4 : Int32) (p5 : Int32) (p6 : Int32) (σ : zS) : zPr (sX11_asks σ.2.2) σ id (fX11_asks p1 p2 p3 p4 p5 p6 σ) := by
  unfold fX11_asks
  have hc := zSm.rfl (sX11_asks σ.2.2) σ
  repeat' first
    | exact zPr.none
    | exact zPr.some (by assumption)
    | refine zPr.ite ?_ ?_
    | refine zPr.wI (by assumption) (by simp only [sX11_asks, List.mem_cons, List.not_mem_nil, or_false]; omega) (fun _ _ => ?_)
    | refine zPr.wL (by assumption) (by simp only [sX11_asks, List.mem_cons, List.not_mem_nil, or_false]; omega) (fun _ _ => ?_)
    | refine zPr.bI (by assumption) (by simp only [sX11_asks, List.mem_cons, List.not_mem_nil, or_false]; omega) (fun _ _ => ?_)
    | refine zPr.bL (by assumption) (by simp only [sX11_asks, List.mem_cons, List.not_mem_nil, or_false]; omega) (fun _ _ => ?_)
    | refine zPr.wC (by assumption) (by simp only [sX11_asks, List.mem_cons, List.not_mem_nil, or_false]; omega) (fun _ _ => ?_)
    | refine zPr.aI (fun _ => ?_)
    | refine zPr.aL (fun _ => ?_)
    | refine zPr.gd ?_
    | refine zPr.bnr (fun _ => ?_)
    | refine zPr.bnv (fun _ => ?_)
def sX11_worthNow (t : Bool × Bool × Bool) : List Nat := [95]
theorem mX11_worthNow (σ : zS) : zPr (sX11_worthNow σ.2.2) σ Prod.snd (fX11_worthNow σ) := by
  unfold fX11_worthNow
  have hc := zSm.rfl (sX11_worthNow σ.2.2) σ
  repeat' first
    | exact zPr.none
    | exact zPr.some (by assumption)
    | refine zPr.ite ?_ ?_
    | refine zPr.wI (by assumption) (by simp only [sX11_worthNow, List.mem_cons, List.not_mem_nil, or_false]; omega) (fun _ _ => ?_)
    | refine zPr.wL (by assumption) (by simp only [sX11_worthNow, List.mem_cons, List.not_mem_nil, or_false]; omega) (fun _ _ => ?_)
    | refine zPr.bI (by assumption) (by simp only [sX11_worthNow, List.mem_cons, List.not_mem_nil, or_false]; omega) (fun _ _ => ?_)
    | refine zPr.bL (by assumption) (by simp only [sX11_worthNow, List.mem_cons, List.not_mem_nil, or_false]; omega) (fun _ _ => ?_)
    | refine zPr.wC (by assumption) (by simp only [sX11_worthNow, List.mem_cons, List.not_mem_nil, or_false]; omega) (fun _ _ => ?_)
    | refine zPr.aI (fun _ => ?_)
    | refine zPr.aL (fun _ => ?_)
    | refine zPr.gd ?_
    | refine zPr.bc (S' := sX11_reckons) (by assumption) (mX11_reckons ..) (fun p hp => by simp only [sX11_reckons, sX11_worthNow, List.mem_cons, List.not_mem_nil, or_false] at hp ⊢ <;> omega) (fun _ _ _ => ?_)
    | refine zPr.bnr (fun _ => ?_)
    | refine zPr.bnv (fun _ => ?_)
def sX11_breathNow (t : Bool × Bool × Bool) : List Nat := [95]
theorem mX11_breathNow (σ : zS) : zPr (sX11_breathNow σ.2.2) σ Prod.snd (fX11_breathNow σ) := by
  unfold fX11_breathNow
  have hc := zSm.rfl (sX11_breathNow σ.2.2) σ
  repeat' first
    | exact zPr.none
    | exact zPr.some (by assumption)
    | refine zPr.ite ?_ ?_
    | refine zPr.wI (by assumption) (by simp only [sX11_breathNow, List.mem_cons, List.not_mem_nil, or_false]; omega) (fun _ _ => ?_)
    | refine zPr.wL (by assumption) (by simp only [sX11_breathNow, List.mem_cons, List.not_mem_nil, or_false]; omega) (fun _ _ => ?_)
    | refine zPr.bI (by assumption) (by simp only [sX11_breathNow, List.mem_cons, List.not_mem_nil, or_false]; omega) (fun _ _ => ?_)
    | refine zPr.bL (by assumption) (by simp only [sX11_breathNow, List.mem_cons, List.not_mem_nil, or_false]; omega) (fun _ _ => ?_)
    | refine zPr.wC (by assumption) (by simp only [sX11_breathNow, List.mem_cons, List.not_mem_nil, or_false]; omega) (fun _ _ => ?_)
    | refine zPr.aI (fun _ => ?_)
    | refine zPr.aL (fun _ => ?_)
    | refine zPr.gd ?_
    | refine zPr.bc (S' := sX11_reckons) (by assumption) (mX11_reckons ..) (fun p hp => by simp only [sX11_reckons, sX11_breathNow, List.mem_cons, List.not_mem_nil, or_false] at hp ⊢ <;> omega) (fun _ _ _ => ?_)
    | refine zPr.bnr (fun _ => ?_)
    | refine zPr.bnv (fun _ => ?_)
def sX11_worthAlone (t : Bool × Bool × Bool) : List Nat := [56, 95]
theorem mX11_worthAlone (p1 : Int32) (p2 : Int32) (p3 : Int32) (p4 : Int32) (σ : zS) : zPr (sX11_worthAlone σ.2.2) σ Prod.snd (fX11_worthAlone p1 p2 p3 p4 σ) := by
  unfold fX11_worthAlone
  have hc := zSm.rfl (sX11_worthAlone σ.2.2) σ
  repeat' first
    | exact zPr.none
    | exact zPr.some (by assumption)
    | refine zPr.ite ?_ ?_
    | refine zPr.wI (by assumption) (by simp only [sX11_worthAlone, List.mem_cons, List.not_mem_nil, or_false]; omega) (fun _ _ => ?_)
    | refine zPr.wL (by assumption) (by simp only [sX11_worthAlone, List.mem_cons, List.not_mem_nil, or_false]; omega) (fun _ _ => ?_)
    | refine zPr.bI (by assumption) (by simp only [sX11_worthAlone, List.mem_cons, List.not_mem_nil, or_false]; omega) (fun _ _ => ?_)
    | refine zPr.bL (by assumption) (by simp only [sX11_worthAlone, List.mem_cons, List.not_mem_nil, or_false]; omega) (fun _ _ => ?_)
    | refine zPr.wC (by assumption) (by simp only [sX11_worthAlone, List.mem_cons, List.not_mem_nil, or_false]; omega) (fun _ _ => ?_)
    | refine zPr.aI (fun _ => ?_)
    | refine zPr.aL (fun _ => ?_)
    | refine zPr.gd ?_
    | refine zPr.bw (S' := sX11_asks) (by assumption) (mX11_asks ..) (fun p hp => by simp only [sX11_asks, sX11_worthAlone, List.mem_cons, List.not_mem_nil, or_false] at hp ⊢ <;> omega) (fun _ _ => ?_)
    | refine zPr.bc (S' := sX11_worthNow) (by assumption) (mX11_worthNow ..) (fun p hp => by simp only [sX11_worthNow, sX11_worthAlone, List.mem_cons, List.not_mem_nil, or_false] at hp ⊢ <;> omega) (fun _ _ _ => ?_)
    | refine zPr.bnr (fun _ => ?_)
    | refine zPr.bnv (fun _ => ?_)
def sX11_allHold (t : Bool × Bool × Bool) : List Nat := [96]
theorem mX11_allHold_2 : ∀ (fuel : Nat) (x1 : Int32) (x2 : Int32) (x3 : Int32) (σ : zS), zPr (sX11_allHold σ.2.2) σ id (fX11_allHold_2 fuel x1 x2 x3 σ) := by
  intro fuel
  induction fuel with
  | zero => intro x1 x2 x3 σ; exact zPr.none
  | succ f ih =>
    intro x1 x2 x3 σ
    rw [fX11_allHold_2]
    have hc := zSm.rfl (sX11_allHold σ.2.2) σ
    repeat' first
      | exact zPr.none
      | exact zPr.some (by assumption)
      | refine zPr.ite ?_ ?_
      | refine zPr.wI (by assumption) (by simp only [sX11_allHold, List.mem_cons, List.not_mem_nil, or_false]; omega) (fun _ _ => ?_)
      | refine zPr.wL (by assumption) (by simp only [sX11_allHold, List.mem_cons, List.not_mem_nil, or_false]; omega) (fun _ _ => ?_)
      | refine zPr.bI (by assumption) (by simp only [sX11_allHold, List.mem_cons, List.not_mem_nil, or_false]; omega) (fun _ _ => ?_)
      | refine zPr.bL (by assumption) (by simp only [sX11_allHold, List.mem_cons, List.not_mem_nil, or_false]; omega) (fun _ _ => ?_)
      | refine zPr.wC (by assumption) (by simp only [sX11_allHold, List.mem_cons, List.not_mem_nil, or_false]; omega) (fun _ _ => ?_)
      | refine zPr.aI (fun _ => ?_)
      | refine zPr.aL (fun _ => ?_)
      | refine zPr.gd ?_
      | refine zPr.bnr (fun _ => ?_)
      | refine zPr.bnv (fun _ => ?_)
      | exact zPr.tail (S' := sX11_allHold) (by assumption) (ih ..) (fun _ h => h)
theorem mX11_allHold (p1 : Int32) (p2 : Int32) (σ : zS) : zPr (sX11_allHold σ.2.2) σ id (fX11_allHold p1 p2 σ) := by
  unfold fX11_allHold
  have hc := zSm.rfl (sX11_allHold σ.2.2) σ
  repeat' first
    | exact zPr.none
    | exact zPr.some (by assumption)
    | refine zPr.ite ?_ ?_
    | refine zPr.wI (by assumption) (by simp only [sX11_allHold, List.mem_cons, List.not_mem_nil, or_false]; omega) (fun _ _ => ?_)
    | refine zPr.wL (by assumption) (by simp only [sX11_allHold, List.mem_cons, List.not_mem_nil, or_false]; omega) (fun _ _ => ?_)
    | refine zPr.bI (by assumption) (by simp only [sX11_allHold, List.mem_cons, List.not_mem_nil, or_false]; omega) (fun _ _ => ?_)
    | refine zPr.bL (by assumption) (by simp only [sX11_allHold, List.mem_cons, List.not_mem_nil, or_false]; omega) (fun _ _ => ?_)
    | refine zPr.wC (by assumption) (by simp only [sX11_allHold, List.mem_cons, List.not_mem_nil, or_false]; omega) (fun _ _ => ?_)
    | refine zPr.aI (fun _ => ?_)
    | refine zPr.aL (fun _ => ?_)
    | refine zPr.gd ?_
    | refine zPr.bnr (fun _ => ?_)
    | refine zPr.bnv (fun _ => ?_)
    | exact zPr.tail (S' := sX11_allHold) (by assumption) (mX11_allHold_2 ..) (fun _ h => h)
def sX11_asksRow (t : Bool × Bool × Bool) : List Nat := [56]
theorem mX11_asksRow_70 (r9 : Int32 → Int32 → Int32 → Int32 → Int32 → Int32 → zS → Option zS) (hr9 : ∀ (x0 : Int32) (x1 : Int32) (x2 : Int32) (x3 : Int32) (x4 : Int32) (x5 : Int32) (σ : zS), zPr (sX11_asksRow σ.2.2) σ id (r9 x0 x1 x2 x3 x4 x5 σ)) (x1 : Int32) (x2 : Int32) (x3 : Int32) (x4 : Int32) (x6 : Int32) (s0 : Int32) (s1 : Int32) (σ : zS) : zPr (sX11_asksRow σ.2.2) σ id (fX11_asksRow_70 r9 x1 x2 x3 x4 x6 s0 s1 σ) := by
  unfold fX11_asksRow_70
  have hc := zSm.rfl (sX11_asksRow σ.2.2) σ
  repeat' first
    | exact zPr.none
    | exact zPr.some (by assumption)
    | refine zPr.ite ?_ ?_
    | refine zPr.wI (by assumption) (by simp only [sX11_asksRow, List.mem_cons, List.not_mem_nil, or_false]; omega) (fun _ _ => ?_)
    | refine zPr.wL (by assumption) (by simp only [sX11_asksRow, List.mem_cons, List.not_mem_nil, or_false]; omega) (fun _ _ => ?_)
    | refine zPr.bI (by assumption) (by simp only [sX11_asksRow, List.mem_cons, List.not_mem_nil, or_false]; omega) (fun _ _ => ?_)
    | refine zPr.bL (by assumption) (by simp only [sX11_asksRow, List.mem_cons, List.not_mem_nil, or_false]; omega) (fun _ _ => ?_)
    | refine zPr.wC (by assumption) (by simp only [sX11_asksRow, List.mem_cons, List.not_mem_nil, or_false]; omega) (fun _ _ => ?_)
    | refine zPr.aI (fun _ => ?_)
    | refine zPr.aL (fun _ => ?_)
    | refine zPr.gd ?_
    | refine zPr.bw (S' := sX11_asks) (by assumption) (mX11_asks ..) (fun p hp => by simp only [sX11_asks, sX11_asksRow, List.mem_cons, List.not_mem_nil, or_false] at hp ⊢ <;> omega) (fun _ _ => ?_)
    | refine zPr.bnr (fun _ => ?_)
    | refine zPr.bnv (fun _ => ?_)
    | exact zPr.tail (S' := sX11_asksRow) (by assumption) (hr9 ..) (fun _ h => h)
theorem mX11_asksRow_45 (r9 : Int32 → Int32 → Int32 → Int32 → Int32 → Int32 → zS → Option zS) (hr9 : ∀ (x0 : Int32) (x1 : Int32) (x2 : Int32) (x3 : Int32) (x4 : Int32) (x5 : Int32) (σ : zS), zPr (sX11_asksRow σ.2.2) σ id (r9 x0 x1 x2 x3 x4 x5 σ)) (x1 : Int32) (x2 : Int32) (x3 : Int32) (x5 : Int32) (x6 : Int32) (s0 : Int32) (σ : zS) : zPr (sX11_asksRow σ.2.2) σ id (fX11_asksRow_45 r9 x1 x2 x3 x5 x6 s0 σ) := by
  unfold fX11_asksRow_45
  have hc := zSm.rfl (sX11_asksRow σ.2.2) σ
  repeat' first
    | exact zPr.none
    | exact zPr.some (by assumption)
    | refine zPr.ite ?_ ?_
    | refine zPr.wI (by assumption) (by simp only [sX11_asksRow, List.mem_cons, List.not_mem_nil, or_false]; omega) (fun _ _ => ?_)
    | refine zPr.wL (by assumption) (by simp only [sX11_asksRow, List.mem_cons, List.not_mem_nil, or_false]; omega) (fun _ _ => ?_)
    | refine zPr.bI (by assumption) (by simp only [sX11_asksRow, List.mem_cons, List.not_mem_nil, or_false]; omega) (fun _ _ => ?_)
    | refine zPr.bL (by assumption) (by simp only [sX11_asksRow, List.mem_cons, List.not_mem_nil, or_false]; omega) (fun _ _ => ?_)
    | refine zPr.wC (by assumption) (by simp only [sX11_asksRow, List.mem_cons, List.not_mem_nil, or_false]; omega) (fun _ _ => ?_)
    | refine zPr.aI (fun _ => ?_)
    | refine zPr.aL (fun _ => ?_)
    | refine zPr.gd ?_
    | refine zPr.bw (S' := sX11_asks) (by assumption) (mX11_asks ..) (fun p hp => by simp only [sX11_asks, sX11_asksRow, List.mem_cons, List.not_mem_nil, or_false] at hp ⊢ <;> omega) (fun _ _ => ?_)
    | refine zPr.bnr (fun _ => ?_)
    | refine zPr.bnv (fun _ => ?_)
    | exact zPr.tail (S' := sX11_asksRow) (by assumption) (hr9 ..) (fun _ h => h)
    | exact zPr.tail (S' := sX11_asksRow) (by assumption) (mX11_asksRow_70 _ (by first | assumption | exact ih | (intros; apply ih) | (intros; apply mX11_asksRow_9)) ..) (fun _ h => h)
theorem mX11_asksRow_9 : ∀ (fuel : Nat) (x1 : Int32) (x2 : Int32) (x3 : Int32) (x4 : Int32) (x5 : Int32) (x6 : Int32) (σ : zS), zPr (sX11_asksRow σ.2.2) σ id (fX11_asksRow_9 fuel x1 x2 x3 x4 x5 x6 σ) := by
  intro fuel
  induction fuel with
  | zero => intro x1 x2 x3 x4 x5 x6 σ; exact zPr.none
  | succ f ih =>
    intro x1 x2 x3 x4 x5 x6 σ
    rw [fX11_asksRow_9]
    have hc := zSm.rfl (sX11_asksRow σ.2.2) σ
    repeat' first
      | exact zPr.none
      | exact zPr.some (by assumption)
      | refine zPr.ite ?_ ?_
      | refine zPr.wI (by assumption) (by simp only [sX11_asksRow, List.mem_cons, List.not_mem_nil, or_false]; omega) (fun _ _ => ?_)
      | refine zPr.wL (by assumption) (by simp only [sX11_asksRow, List.mem_cons, List.not_mem_nil, or_false]; omega) (fun _ _ => ?_)
      | refine zPr.bI (by assumption) (by simp only [sX11_asksRow, List.mem_cons, List.not_mem_nil, or_false]; omega) (fun _ _ => ?_)
      | refine zPr.bL (by assumption) (by simp only [sX11_asksRow, List.mem_cons, List.not_mem_nil, or_false]; omega) (fun _ _ => ?_)
      | refine zPr.wC (by assumption) (by simp only [sX11_asksRow, List.mem_cons, List.not_mem_nil, or_false]; omega) (fun _ _ => ?_)
      | refine zPr.aI (fun _ => ?_)
      | refine zPr.aL (fun _ => ?_)
      | refine zPr.gd ?_
      | refine zPr.bw (S' := sX11_asks) (by assumption) (mX11_asks ..) (fun p hp => by simp only [sX11_asks, sX11_asksRow, List.mem_cons, List.not_mem_nil, or_false] at hp ⊢ <;> omega) (fun _ _ => ?_)
      | refine zPr.bnr (fun _ => ?_)
      | refine zPr.bnv (fun _ => ?_)
      | exact zPr.tail (S' := sX11_asksRow) (by assumption) (ih ..) (fun _ h => h)
      | exact zPr.tail (S' := sX11_asksRow) (by assumption) (mX11_asksRow_70 _ (by first | assumption | exact ih | (intros; apply ih) | (intros; apply mX11_asksRow_9)) ..) (fun _ h => h)
      | exact zPr.tail (S' := sX11_asksRow) (by assumption) (mX11_asksRow_45 _ (by first | assumption | exact ih | (intros; apply ih) | (intros; apply mX11_asksRow_9)) ..) (fun _ h => h)
theorem mX11_asksRow (p1 : Int32) (p2 : Int32) (p3 : Int32) (σ : zS) : zPr (sX11_asksRow σ.2.2) σ id (fX11_asksRow p1 p2 p3 σ) := by
  unfold fX11_asksRow
  have hc := zSm.rfl (sX11_asksRow σ.2.2) σ
  repeat' first
    | exact zPr.none
    | exact zPr.some (by assumption)
    | refine zPr.ite ?_ ?_
    | refine zPr.wI (by assumption) (by simp only [sX11_asksRow, List.mem_cons, List.not_mem_nil, or_false]; omega) (fun _ _ => ?_)
    | refine zPr.wL (by assumption) (by simp only [sX11_asksRow, List.mem_cons, List.not_mem_nil, or_false]; omega) (fun _ _ => ?_)
    | refine zPr.bI (by assumption) (by simp only [sX11_asksRow, List.mem_cons, List.not_mem_nil, or_false]; omega) (fun _ _ => ?_)
    | refine zPr.bL (by assumption) (by simp only [sX11_asksRow, List.mem_cons, List.not_mem_nil, or_false]; omega) (fun _ _ => ?_)
    | refine zPr.wC (by assumption) (by simp only [sX11_asksRow, List.mem_cons, List.not_mem_nil, or_false]; omega) (fun _ _ => ?_)
    | refine zPr.aI (fun _ => ?_)
    | refine zPr.aL (fun _ => ?_)
    | refine zPr.gd ?_
    | refine zPr.bw (S' := sX11_asks) (by assumption) (mX11_asks ..) (fun p hp => by simp only [sX11_asks, sX11_asksRow, List.mem_cons, List.not_mem_nil, or_false] at hp ⊢ <;> omega) (fun _ _ => ?_)
    | refine zPr.bnr (fun _ => ?_)
    | refine zPr.bnv (fun _ => ?_)
    | exact zPr.tail (S' := sX11_asksRow) (by assumption) (mX11_asksRow_70 _ (by first | assumption | exact ih | (intros; apply ih) | (intros; apply mX11_asksRow_9)) ..) (fun _ h => h)
    | exact zPr.tail (S' := sX11_asksRow) (by assumption) (mX11_asksRow_45 _ (by first | assumption | exact ih | (intros; apply ih) | (intros; apply mX11_asksRow_9)) ..) (fun _ h => h)
    | exact zPr.tail (S' := sX11_asksRow) (by assumption) (mX11_asksRow_9 ..) (fun _ h => h)
def sX11_worthRow (t : Bool × Bool × Bool) : List Nat := [56, 95]
theorem mX11_worthRow (p1 : Int32) (p2 : Int32) (p3 : Int32) (σ : zS) : zPr (sX11_worthRow σ.2.2) σ Prod.snd (fX11_worthRow p1 p2 p3 σ) := by
  unfold fX11_worthRow
  have hc := zSm.rfl (sX11_worthRow σ.2.2) σ
  repeat' first
    | exact zPr.none
    | exact zPr.some (by assumption)
    | refine zPr.ite ?_ ?_
    | refine zPr.wI (by assumption) (by simp only [sX11_worthRow, List.mem_cons, List.not_mem_nil, or_false]; omega) (fun _ _ => ?_)
    | refine zPr.wL (by assumption) (by simp only [sX11_worthRow, List.mem_cons, List.not_mem_nil, or_false]; omega) (fun _ _ => ?_)
    | refine zPr.bI (by assumption) (by simp only [sX11_worthRow, List.mem_cons, List.not_mem_nil, or_false]; omega) (fun _ _ => ?_)
    | refine zPr.bL (by assumption) (by simp only [sX11_worthRow, List.mem_cons, List.not_mem_nil, or_false]; omega) (fun _ _ => ?_)
    | refine zPr.wC (by assumption) (by simp only [sX11_worthRow, List.mem_cons, List.not_mem_nil, or_false]; omega) (fun _ _ => ?_)
    | refine zPr.aI (fun _ => ?_)
    | refine zPr.aL (fun _ => ?_)
    | refine zPr.gd ?_
    | refine zPr.bw (S' := sX11_asksRow) (by assumption) (mX11_asksRow ..) (fun p hp => by simp only [sX11_asksRow, sX11_worthRow, List.mem_cons, List.not_mem_nil, or_false] at hp ⊢ <;> omega) (fun _ _ => ?_)
    | refine zPr.bc (S' := sX11_worthNow) (by assumption) (mX11_worthNow ..) (fun p hp => by simp only [sX11_worthNow, sX11_worthRow, List.mem_cons, List.not_mem_nil, or_false] at hp ⊢ <;> omega) (fun _ _ _ => ?_)
    | refine zPr.bnr (fun _ => ?_)
    | refine zPr.bnv (fun _ => ?_)
def sX11_worth (t : Bool × Bool × Bool) : List Nat := [56, 95, 96]
theorem mX11_worth (p1 : Int32) (p2 : Int32) (p3 : Int32) (σ : zS) : zPr (sX11_worth σ.2.2) σ Prod.snd (fX11_worth p1 p2 p3 σ) := by
  unfold fX11_worth
  have hc := zSm.rfl (sX11_worth σ.2.2) σ
  repeat' first
    | exact zPr.none
    | exact zPr.some (by assumption)
    | refine zPr.ite ?_ ?_
    | refine zPr.wI (by assumption) (by simp only [sX11_worth, List.mem_cons, List.not_mem_nil, or_false]; omega) (fun _ _ => ?_)
    | refine zPr.wL (by assumption) (by simp only [sX11_worth, List.mem_cons, List.not_mem_nil, or_false]; omega) (fun _ _ => ?_)
    | refine zPr.bI (by assumption) (by simp only [sX11_worth, List.mem_cons, List.not_mem_nil, or_false]; omega) (fun _ _ => ?_)
    | refine zPr.bL (by assumption) (by simp only [sX11_worth, List.mem_cons, List.not_mem_nil, or_false]; omega) (fun _ _ => ?_)
    | refine zPr.wC (by assumption) (by simp only [sX11_worth, List.mem_cons, List.not_mem_nil, or_false]; omega) (fun _ _ => ?_)
    | refine zPr.aI (fun _ => ?_)
    | refine zPr.aL (fun _ => ?_)
    | refine zPr.gd ?_
    | refine zPr.bw (S' := sX11_allHold) (by assumption) (mX11_allHold ..) (fun p hp => by simp only [sX11_allHold, sX11_worth, List.mem_cons, List.not_mem_nil, or_false] at hp ⊢ <;> omega) (fun _ _ => ?_)
    | refine zPr.bc (S' := sX11_worthRow) (by assumption) (mX11_worthRow ..) (fun p hp => by simp only [sX11_worthRow, sX11_worth, List.mem_cons, List.not_mem_nil, or_false] at hp ⊢ <;> omega) (fun _ _ _ => ?_)
    | refine zPr.bnr (fun _ => ?_)
    | refine zPr.bnv (fun _ => ?_)
def sX11_tired (t : Bool × Bool × Bool) : List Nat := [56, 95]
theorem mX11_tired (p1 : Int32) (p2 : Int32) (p3 : Int32) (p4 : Int32) (σ : zS) : zPr (sX11_tired σ.2.2) σ Prod.snd (fX11_tired p1 p2 p3 p4 σ) := by
  unfold fX11_tired
  have hc := zSm.rfl (sX11_tired σ.2.2) σ
  repeat' first
    | exact zPr.none
    | exact zPr.some (by assumption)
    | refine zPr.ite ?_ ?_
    | refine zPr.wI (by assumption) (by simp only [sX11_tired, List.mem_cons, List.not_mem_nil, or_false]; omega) (fun _ _ => ?_)
    | refine zPr.wL (by assumption) (by simp only [sX11_tired, List.mem_cons, List.not_mem_nil, or_false]; omega) (fun _ _ => ?_)
    | refine zPr.bI (by assumption) (by simp only [sX11_tired, List.mem_cons, List.not_mem_nil, or_false]; omega) (fun _ _ => ?_)
    | refine zPr.bL (by assumption) (by simp only [sX11_tired, List.mem_cons, List.not_mem_nil, or_false]; omega) (fun _ _ => ?_)
    | refine zPr.wC (by assumption) (by simp only [sX11_tired, List.mem_cons, List.not_mem_nil, or_false]; omega) (fun _ _ => ?_)
    | refine zPr.aI (fun _ => ?_)
    | refine zPr.aL (fun _ => ?_)
    | refine zPr.gd ?_
    | refine zPr.bw (S' := sX11_asks) (by assumption) (mX11_asks ..) (fun p hp => by simp only [sX11_asks, sX11_tired, List.mem_cons, List.not_mem_nil, or_false] at hp ⊢ <;> omega) (fun _ _ => ?_)
    | refine zPr.bc (S' := sX11_breathNow) (by assumption) (mX11_breathNow ..) (fun p hp => by simp only [sX11_breathNow, sX11_tired, List.mem_cons, List.not_mem_nil, or_false] at hp ⊢ <;> omega) (fun _ _ _ => ?_)
    | refine zPr.bnr (fun _ => ?_)
    | refine zPr.bnv (fun _ => ?_)
def sX11_findsAlone (t : Bool × Bool × Bool) : List Nat := [56, 95]
theorem mX11_findsAlone_105 (r2 : Int32 → Int32 → Int32 → zS → Option zS) (hr2 : ∀ (x0 : Int32) (x1 : Int32) (x2 : Int32) (σ : zS), zPr (sX11_findsAlone σ.2.2) σ id (r2 x0 x1 x2 σ)) (x1 : Int32) (x2 : Int32) (x3 : Int32) (σ : zS) : zPr (sX11_findsAlone σ.2.2) σ id (fX11_findsAlone_105 r2 x1 x2 x3 σ) := by
  unfold fX11_findsAlone_105
  have hc := zSm.rfl (sX11_findsAlone σ.2.2) σ
  repeat' first
    | exact zPr.none
    | exact zPr.some (by assumption)
    | refine zPr.ite ?_ ?_
    | refine zPr.wI (by assumption) (by simp only [sX11_findsAlone, List.mem_cons, List.not_mem_nil, or_false]; omega) (fun _ _ => ?_)
    | refine zPr.wL (by assumption) (by simp only [sX11_findsAlone, List.mem_cons, List.not_mem_nil, or_false]; omega) (fun _ _ => ?_)
    | refine zPr.bI (by assumption) (by simp only [sX11_findsAlone, List.mem_cons, List.not_mem_nil, or_false]; omega) (fun _ _ => ?_)
    | refine zPr.bL (by assumption) (by simp only [sX11_findsAlone, List.mem_cons, List.not_mem_nil, or_false]; omega) (fun _ _ => ?_)
    | refine zPr.wC (by assumption) (by simp only [sX11_findsAlone, List.mem_cons, List.not_mem_nil, or_false]; omega) (fun _ _ => ?_)
    | refine zPr.aI (fun _ => ?_)
    | refine zPr.aL (fun _ => ?_)
    | refine zPr.gd ?_
    | refine zPr.bc (S' := sX11_worthAlone) (by assumption) (mX11_worthAlone ..) (fun p hp => by simp only [sX11_worthAlone, sX11_findsAlone, List.mem_cons, List.not_mem_nil, or_false] at hp ⊢ <;> omega) (fun _ _ _ => ?_)
    | refine zPr.bnr (fun _ => ?_)
    | refine zPr.bnv (fun _ => ?_)
    | exact zPr.tail (S' := sX11_findsAlone) (by assumption) (hr2 ..) (fun _ h => h)
theorem mX11_findsAlone_94 (r2 : Int32 → Int32 → Int32 → zS → Option zS) (hr2 : ∀ (x0 : Int32) (x1 : Int32) (x2 : Int32) (σ : zS), zPr (sX11_findsAlone σ.2.2) σ id (r2 x0 x1 x2 σ)) (x1 : Int32) (x2 : Int32) (x3 : Int32) (x4 : Int64) (σ : zS) : zPr (sX11_findsAlone σ.2.2) σ id (fX11_findsAlone_94 r2 x1 x2 x3 x4 σ) := by
  unfold fX11_findsAlone_94
  have hc := zSm.rfl (sX11_findsAlone σ.2.2) σ
  repeat' first
    | exact zPr.none
    | exact zPr.some (by assumption)
    | refine zPr.ite ?_ ?_
    | refine zPr.wI (by assumption) (by simp only [sX11_findsAlone, List.mem_cons, List.not_mem_nil, or_false]; omega) (fun _ _ => ?_)
    | refine zPr.wL (by assumption) (by simp only [sX11_findsAlone, List.mem_cons, List.not_mem_nil, or_false]; omega) (fun _ _ => ?_)
    | refine zPr.bI (by assumption) (by simp only [sX11_findsAlone, List.mem_cons, List.not_mem_nil, or_false]; omega) (fun _ _ => ?_)
    | refine zPr.bL (by assumption) (by simp only [sX11_findsAlone, List.mem_cons, List.not_mem_nil, or_false]; omega) (fun _ _ => ?_)
    | refine zPr.wC (by assumption) (by simp only [sX11_findsAlone, List.mem_cons, List.not_mem_nil, or_false]; omega) (fun _ _ => ?_)
    | refine zPr.aI (fun _ => ?_)
    | refine zPr.aL (fun _ => ?_)
    | refine zPr.gd ?_
    | refine zPr.bc (S' := sX11_worthAlone) (by assumption) (mX11_worthAlone ..) (fun p hp => by simp only [sX11_worthAlone, sX11_findsAlone, List.mem_cons, List.not_mem_nil, or_false] at hp ⊢ <;> omega) (fun _ _ _ => ?_)
    | refine zPr.bnr (fun _ => ?_)
    | refine zPr.bnv (fun _ => ?_)
    | exact zPr.tail (S' := sX11_findsAlone) (by assumption) (hr2 ..) (fun _ h => h)
    | exact zPr.tail (S' := sX11_findsAlone) (by assumption) (mX11_findsAlone_105 _ (by first | assumption | exact ih | (intros; apply ih) | (intros; apply mX11_findsAlone_2)) ..) (fun _ h => h)
theorem mX11_findsAlone_18 (r2 : Int32 → Int32 → Int32 → zS → Option zS) (hr2 : ∀ (x0 : Int32) (x1 : Int32) (x2 : Int32) (σ : zS), zPr (sX11_findsAlone σ.2.2) σ id (r2 x0 x1 x2 σ)) : ∀ (fuel : Nat) (x1 : Int32) (x2 : Int32) (x3 : Int32) (x4 : Int64) (x6 : Int32) (σ : zS), zPr (sX11_findsAlone σ.2.2) σ id (fX11_findsAlone_18 r2 fuel x1 x2 x3 x4 x6 σ) := by
  intro fuel
  induction fuel with
  | zero => intro x1 x2 x3 x4 x6 σ; exact zPr.none
  | succ f ih =>
    intro x1 x2 x3 x4 x6 σ
    rw [fX11_findsAlone_18]
    have hc := zSm.rfl (sX11_findsAlone σ.2.2) σ
    repeat' first
      | exact zPr.none
      | exact zPr.some (by assumption)
      | refine zPr.ite ?_ ?_
      | refine zPr.wI (by assumption) (by simp only [sX11_findsAlone, List.mem_cons, List.not_mem_nil, or_false]; omega) (fun _ _ => ?_)
      | refine zPr.wL (by assumption) (by simp only [sX11_findsAlone, List.mem_cons, List.not_mem_nil, or_false]; omega) (fun _ _ => ?_)
      | refine zPr.bI (by assumption) (by simp only [sX11_findsAlone, List.mem_cons, List.not_mem_nil, or_false]; omega) (fun _ _ => ?_)
      | refine zPr.bL (by assumption) (by simp only [sX11_findsAlone, List.mem_cons, List.not_mem_nil, or_false]; omega) (fun _ _ => ?_)
      | refine zPr.wC (by assumption) (by simp only [sX11_findsAlone, List.mem_cons, List.not_mem_nil, or_false]; omega) (fun _ _ => ?_)
      | refine zPr.aI (fun _ => ?_)
      | refine zPr.aL (fun _ => ?_)
      | refine zPr.gd ?_
      | refine zPr.bc (S' := sX11_worthAlone) (by assumption) (mX11_worthAlone ..) (fun p hp => by simp only [sX11_worthAlone, sX11_findsAlone, List.mem_cons, List.not_mem_nil, or_false] at hp ⊢ <;> omega) (fun _ _ _ => ?_)
      | refine zPr.bnr (fun _ => ?_)
      | refine zPr.bnv (fun _ => ?_)
      | exact zPr.tail (S' := sX11_findsAlone) (by assumption) (ih ..) (fun _ h => h)
      | exact zPr.tail (S' := sX11_findsAlone) (by assumption) (hr2 ..) (fun _ h => h)
      | exact zPr.tail (S' := sX11_findsAlone) (by assumption) (mX11_findsAlone_105 _ (by first | assumption | exact ih | (intros; apply ih) | (intros; apply mX11_findsAlone_2)) ..) (fun _ h => h)
      | exact zPr.tail (S' := sX11_findsAlone) (by assumption) (mX11_findsAlone_94 _ (by first | assumption | exact ih | (intros; apply ih) | (intros; apply mX11_findsAlone_2)) ..) (fun _ h => h)
theorem mX11_findsAlone_2 : ∀ (fuel : Nat) (x1 : Int32) (x2 : Int32) (x3 : Int32) (σ : zS), zPr (sX11_findsAlone σ.2.2) σ id (fX11_findsAlone_2 fuel x1 x2 x3 σ) := by
  intro fuel
  induction fuel with
  | zero => intro x1 x2 x3 σ; exact zPr.none
  | succ f ih =>
    intro x1 x2 x3 σ
    rw [fX11_findsAlone_2]
    have hc := zSm.rfl (sX11_findsAlone σ.2.2) σ
    repeat' first
      | exact zPr.none
      | exact zPr.some (by assumption)
      | refine zPr.ite ?_ ?_
      | refine zPr.wI (by assumption) (by simp only [sX11_findsAlone, List.mem_cons, List.not_mem_nil, or_false]; omega) (fun _ _ => ?_)
      | refine zPr.wL (by assumption) (by simp only [sX11_findsAlone, List.mem_cons, List.not_mem_nil, or_false]; omega) (fun _ _ => ?_)
      | refine zPr.bI (by assumption) (by simp only [sX11_findsAlone, List.mem_cons, List.not_mem_nil, or_false]; omega) (fun _ _ => ?_)
      | refine zPr.bL (by assumption) (by simp only [sX11_findsAlone, List.mem_cons, List.not_mem_nil, or_false]; omega) (fun _ _ => ?_)
      | refine zPr.wC (by assumption) (by simp only [sX11_findsAlone, List.mem_cons, List.not_mem_nil, or_false]; omega) (fun _ _ => ?_)
      | refine zPr.aI (fun _ => ?_)
      | refine zPr.aL (fun _ => ?_)
      | refine zPr.gd ?_
      | refine zPr.bc (S' := sX11_worthAlone) (by assumption) (mX11_worthAlone ..) (fun p hp => by simp only [sX11_worthAlone, sX11_findsAlone, List.mem_cons, List.not_mem_nil, or_false] at hp ⊢ <;> omega) (fun _ _ _ => ?_)
      | refine zPr.bnr (fun _ => ?_)
      | refine zPr.bnv (fun _ => ?_)
      | exact zPr.tail (S' := sX11_findsAlone) (by assumption) (ih ..) (fun _ h => h)
      | exact zPr.tail (S' := sX11_findsAlone) (by assumption) (mX11_findsAlone_105 _ (by first | assumption | exact ih | (intros; apply ih) | (intros; apply mX11_findsAlone_2)) ..) (fun _ h => h)
      | exact zPr.tail (S' := sX11_findsAlone) (by assumption) (mX11_findsAlone_94 _ (by first | assumption | exact ih | (intros; apply ih) | (intros; apply mX11_findsAlone_2)) ..) (fun _ h => h)
      | exact zPr.tail (S' := sX11_findsAlone) (by assumption) (mX11_findsAlone_18 _ (by first | assumption | exact ih | (intros; apply ih) | (intros; apply mX11_findsAlone_2)) ..) (fun _ h => h)
theorem mX11_findsAlone (p1 : Int32) (p2 : Int32) (σ : zS) : zPr (sX11_findsAlone σ.2.2) σ id (fX11_findsAlone p1 p2 σ) := by
  unfold fX11_findsAlone
  have hc := zSm.rfl (sX11_findsAlone σ.2.2) σ
  repeat' first
    | exact zPr.none
    | exact zPr.some (by assumption)
    | refine zPr.ite ?_ ?_
    | refine zPr.wI (by assumption) (by simp only [sX11_findsAlone, List.mem_cons, List.not_mem_nil, or_false]; omega) (fun _ _ => ?_)
    | refine zPr.wL (by assumption) (by simp only [sX11_findsAlone, List.mem_cons, List.not_mem_nil, or_false]; omega) (fun _ _ => ?_)
    | refine zPr.bI (by assumption) (by simp only [sX11_findsAlone, List.mem_cons, List.not_mem_nil, or_false]; omega) (fun _ _ => ?_)
    | refine zPr.bL (by assumption) (by simp only [sX11_findsAlone, List.mem_cons, List.not_mem_nil, or_false]; omega) (fun _ _ => ?_)
    | refine zPr.wC (by assumption) (by simp only [sX11_findsAlone, List.mem_cons, List.not_mem_nil, or_false]; omega) (fun _ _ => ?_)
    | refine zPr.aI (fun _ => ?_)
    | refine zPr.aL (fun _ => ?_)
    | refine zPr.gd ?_
    | refine zPr.bc (S' := sX11_worthAlone) (by assumption) (mX11_worthAlone ..) (fun p hp => by simp only [sX11_worthAlone, sX11_findsAlone, List.mem_cons, List.not_mem_nil, or_false] at hp ⊢ <;> omega) (fun _ _ _ => ?_)
    | refine zPr.bnr (fun _ => ?_)
    | refine zPr.bnv (fun _ => ?_)
    | exact zPr.tail (S' := sX11_findsAlone) (by assumption) (mX11_findsAlone_105 _ (by first | assumption | exact ih | (intros; apply ih) | (intros; apply mX11_findsAlone_2)) ..) (fun _ h => h)
    | exact zPr.tail (S' := sX11_findsAlone) (by assumption) (mX11_findsAlone_94 _ (by first | assumption | exact ih | (intros; apply ih) | (intros; apply mX11_findsAlone_2)) ..) (fun _ h => h)
    | exact zPr.tail (S' := sX11_findsAlone) (by assumption) (mX11_findsAlone_18 _ (by first | assumption | exact ih | (intros; apply ih) | (intros; apply mX11_findsAlone_2)) ..) (fun _ h => h)
    | exact zPr.tail (S' := sX11_findsAlone) (by assumption) (mX11_findsAlone_2 ..) (fun _ h => h)
def sX11_alone (t : Bool × Bool × Bool) : List Nat := [56, 95]
theorem mX11_alone (p1 : Int32) (p2 : Int32) (p3 : Int32) (σ : zS) : zPr (sX11_alone σ.2.2) σ Prod.snd (fX11_alone p1 p2 p3 σ) := by
  unfold fX11_alone
  have hc := zSm.rfl (sX11_alone σ.2.2) σ
  repeat' first
    | exact zPr.none
    | exact zPr.some (by assumption)
    | refine zPr.ite ?_ ?_
    | refine zPr.wI (by assumption) (by simp only [sX11_alone, List.mem_cons, List.not_mem_nil, or_false]; omega) (fun _ _ => ?_)
    | refine zPr.wL (by assumption) (by simp only [sX11_alone, List.mem_cons, List.not_mem_nil, or_false]; omega) (fun _ _ => ?_)
    | refine zPr.bI (by assumption) (by simp only [sX11_alone, List.mem_cons, List.not_mem_nil, or_false]; omega) (fun _ _ => ?_)
    | refine zPr.bL (by assumption) (by simp only [sX11_alone, List.mem_cons, List.not_mem_nil, or_false]; omega) (fun _ _ => ?_)
    | refine zPr.wC (by assumption) (by simp only [sX11_alone, List.mem_cons, List.not_mem_nil, or_false]; omega) (fun _ _ => ?_)
    | refine zPr.aI (fun _ => ?_)
    | refine zPr.aL (fun _ => ?_)
    | refine zPr.gd ?_
    | refine zPr.bw (S' := sX11_findsAlone) (by assumption) (mX11_findsAlone ..) (fun p hp => by simp only [sX11_findsAlone, sX11_alone, List.mem_cons, List.not_mem_nil, or_false] at hp ⊢ <;> omega) (fun _ _ => ?_)
    | refine zPr.bnr (fun _ => ?_)
    | refine zPr.bnv (fun _ => ?_)
def sX11_findsOn (t : Bool × Bool × Bool) : List Nat := [56, 95]
theorem mX11_findsOn_122 (r3 : Int32 → Int32 → Int32 → Int64 → Int32 → zS → Option zS) (hr3 : ∀ (x0 : Int32) (x1 : Int32) (x2 : Int32) (x3 : Int64) (x4 : Int32) (σ : zS), zPr (sX11_findsOn σ.2.2) σ id (r3 x0 x1 x2 x3 x4 σ)) (x1 : Int32) (x2 : Int32) (x3 : Int32) (x4 : Int64) (x6 : Int32) (σ : zS) : zPr (sX11_findsOn σ.2.2) σ id (fX11_findsOn_122 r3 x1 x2 x3 x4 x6 σ) := by
  unfold fX11_findsOn_122
  have hc := zSm.rfl (sX11_findsOn σ.2.2) σ
  repeat' first
    | exact zPr.none
    | exact zPr.some (by assumption)
    | refine zPr.ite ?_ ?_
    | refine zPr.wI (by assumption) (by simp only [sX11_findsOn, List.mem_cons, List.not_mem_nil, or_false]; omega) (fun _ _ => ?_)
    | refine zPr.wL (by assumption) (by simp only [sX11_findsOn, List.mem_cons, List.not_mem_nil, or_false]; omega) (fun _ _ => ?_)
    | refine zPr.bI (by assumption) (by simp only [sX11_findsOn, List.mem_cons, List.not_mem_nil, or_false]; omega) (fun _ _ => ?_)
    | refine zPr.bL (by assumption) (by simp only [sX11_findsOn, List.mem_cons, List.not_mem_nil, or_false]; omega) (fun _ _ => ?_)
    | refine zPr.wC (by assumption) (by simp only [sX11_findsOn, List.mem_cons, List.not_mem_nil, or_false]; omega) (fun _ _ => ?_)
    | refine zPr.aI (fun _ => ?_)
    | refine zPr.aL (fun _ => ?_)
    | refine zPr.gd ?_
    | refine zPr.bc (S' := sX11_breathNow) (by assumption) (mX11_breathNow ..) (fun p hp => by simp only [sX11_breathNow, sX11_findsOn, List.mem_cons, List.not_mem_nil, or_false] at hp ⊢ <;> omega) (fun _ _ _ => ?_)
    | refine zPr.bc (S' := sX11_worthAlone) (by assumption) (mX11_worthAlone ..) (fun p hp => by simp only [sX11_worthAlone, sX11_findsOn, List.mem_cons, List.not_mem_nil, or_false] at hp ⊢ <;> omega) (fun _ _ _ => ?_)
    | refine zPr.bnr (fun _ => ?_)
    | refine zPr.bnv (fun _ => ?_)
    | exact zPr.tail (S' := sX11_findsOn) (by assumption) (hr3 ..) (fun _ h => h)
theorem mX11_findsOn_110 (r3 : Int32 → Int32 → Int32 → Int64 → Int32 → zS → Option zS) (hr3 : ∀ (x0 : Int32) (x1 : Int32) (x2 : Int32) (x3 : Int64) (x4 : Int32) (σ : zS), zPr (sX11_findsOn σ.2.2) σ id (r3 x0 x1 x2 x3 x4 σ)) (x1 : Int32) (x2 : Int32) (x3 : Int32) (x4 : Int64) (x6 : Int32) (x7 : Int64) (σ : zS) : zPr (sX11_findsOn σ.2.2) σ id (fX11_findsOn_110 r3 x1 x2 x3 x4 x6 x7 σ) := by
  unfold fX11_findsOn_110
  have hc := zSm.rfl (sX11_findsOn σ.2.2) σ
  repeat' first
    | exact zPr.none
    | exact zPr.some (by assumption)
    | refine zPr.ite ?_ ?_
    | refine zPr.wI (by assumption) (by simp only [sX11_findsOn, List.mem_cons, List.not_mem_nil, or_false]; omega) (fun _ _ => ?_)
    | refine zPr.wL (by assumption) (by simp only [sX11_findsOn, List.mem_cons, List.not_mem_nil, or_false]; omega) (fun _ _ => ?_)
    | refine zPr.bI (by assumption) (by simp only [sX11_findsOn, List.mem_cons, List.not_mem_nil, or_false]; omega) (fun _ _ => ?_)
    | refine zPr.bL (by assumption) (by simp only [sX11_findsOn, List.mem_cons, List.not_mem_nil, or_false]; omega) (fun _ _ => ?_)
    | refine zPr.wC (by assumption) (by simp only [sX11_findsOn, List.mem_cons, List.not_mem_nil, or_false]; omega) (fun _ _ => ?_)
    | refine zPr.aI (fun _ => ?_)
    | refine zPr.aL (fun _ => ?_)
    | refine zPr.gd ?_
    | refine zPr.bc (S' := sX11_breathNow) (by assumption) (mX11_breathNow ..) (fun p hp => by simp only [sX11_breathNow, sX11_findsOn, List.mem_cons, List.not_mem_nil, or_false] at hp ⊢ <;> omega) (fun _ _ _ => ?_)
    | refine zPr.bc (S' := sX11_worthAlone) (by assumption) (mX11_worthAlone ..) (fun p hp => by simp only [sX11_worthAlone, sX11_findsOn, List.mem_cons, List.not_mem_nil, or_false] at hp ⊢ <;> omega) (fun _ _ _ => ?_)
    | refine zPr.bnr (fun _ => ?_)
    | refine zPr.bnv (fun _ => ?_)
    | exact zPr.tail (S' := sX11_findsOn) (by assumption) (hr3 ..) (fun _ h => h)
    | exact zPr.tail (S' := sX11_findsOn) (by assumption) (mX11_findsOn_122 _ (by first | assumption | exact ih | (intros; apply ih) | (intros; apply mX11_findsOn_3)) ..) (fun _ h => h)
theorem mX11_findsOn_15 (r3 : Int32 → Int32 → Int32 → Int64 → Int32 → zS → Option zS) (hr3 : ∀ (x0 : Int32) (x1 : Int32) (x2 : Int32) (x3 : Int64) (x4 : Int32) (σ : zS), zPr (sX11_findsOn σ.2.2) σ id (r3 x0 x1 x2 x3 x4 σ)) : ∀ (fuel : Nat) (x1 : Int32) (x2 : Int32) (x3 : Int32) (x4 : Int64) (x6 : Int32) (x7 : Int64) (x9 : Int32) (σ : zS), zPr (sX11_findsOn σ.2.2) σ id (fX11_findsOn_15 r3 fuel x1 x2 x3 x4 x6 x7 x9 σ) := by
  intro fuel
  induction fuel with
  | zero => intro x1 x2 x3 x4 x6 x7 x9 σ; exact zPr.none
  | succ f ih =>
    intro x1 x2 x3 x4 x6 x7 x9 σ
    rw [fX11_findsOn_15]
    have hc := zSm.rfl (sX11_findsOn σ.2.2) σ
    repeat' first
      | exact zPr.none
      | exact zPr.some (by assumption)
      | refine zPr.ite ?_ ?_
      | refine zPr.wI (by assumption) (by simp only [sX11_findsOn, List.mem_cons, List.not_mem_nil, or_false]; omega) (fun _ _ => ?_)
      | refine zPr.wL (by assumption) (by simp only [sX11_findsOn, List.mem_cons, List.not_mem_nil, or_false]; omega) (fun _ _ => ?_)
      | refine zPr.bI (by assumption) (by simp only [sX11_findsOn, List.mem_cons, List.not_mem_nil, or_false]; omega) (fun _ _ => ?_)
      | refine zPr.bL (by assumption) (by simp only [sX11_findsOn, List.mem_cons, List.not_mem_nil, or_false]; omega) (fun _ _ => ?_)
      | refine zPr.wC (by assumption) (by simp only [sX11_findsOn, List.mem_cons, List.not_mem_nil, or_false]; omega) (fun _ _ => ?_)
      | refine zPr.aI (fun _ => ?_)
      | refine zPr.aL (fun _ => ?_)
      | refine zPr.gd ?_
      | refine zPr.bc (S' := sX11_breathNow) (by assumption) (mX11_breathNow ..) (fun p hp => by simp only [sX11_breathNow, sX11_findsOn, List.mem_cons, List.not_mem_nil, or_false] at hp ⊢ <;> omega) (fun _ _ _ => ?_)
      | refine zPr.bc (S' := sX11_worthAlone) (by assumption) (mX11_worthAlone ..) (fun p hp => by simp only [sX11_worthAlone, sX11_findsOn, List.mem_cons, List.not_mem_nil, or_false] at hp ⊢ <;> omega) (fun _ _ _ => ?_)
      | refine zPr.bnr (fun _ => ?_)
      | refine zPr.bnv (fun _ => ?_)
      | exact zPr.tail (S' := sX11_findsOn) (by assumption) (ih ..) (fun _ h => h)
      | exact zPr.tail (S' := sX11_findsOn) (by assumption) (hr3 ..) (fun _ h => h)
      | exact zPr.tail (S' := sX11_findsOn) (by assumption) (mX11_findsOn_122 _ (by first | assumption | exact ih | (intros; apply ih) | (intros; apply mX11_findsOn_3)) ..) (fun _ h => h)
      | exact zPr.tail (S' := sX11_findsOn) (by assumption) (mX11_findsOn_110 _ (by first | assumption | exact ih | (intros; apply ih) | (intros; apply mX11_findsOn_3)) ..) (fun _ h => h)
theorem mX11_findsOn_3 : ∀ (fuel : Nat) (x1 : Int32) (x2 : Int32) (x3 : Int32) (x4 : Int64) (x6 : Int32) (σ : zS), zPr (sX11_findsOn σ.2.2) σ id (fX11_findsOn_3 fuel x1 x2 x3 x4 x6 σ) := by
  intro fuel
  induction fuel with
  | zero => intro x1 x2 x3 x4 x6 σ; exact zPr.none
  | succ f ih =>
    intro x1 x2 x3 x4 x6 σ
    rw [fX11_findsOn_3]
    have hc := zSm.rfl (sX11_findsOn σ.2.2) σ
    repeat' first
      | exact zPr.none
      | exact zPr.some (by assumption)
      | refine zPr.ite ?_ ?_
      | refine zPr.wI (by assumption) (by simp only [sX11_findsOn, List.mem_cons, List.not_mem_nil, or_false]; omega) (fun _ _ => ?_)
      | refine zPr.wL (by assumption) (by simp only [sX11_findsOn, List.mem_cons, List.not_mem_nil, or_false]; omega) (fun _ _ => ?_)
      | refine zPr.bI (by assumption) (by simp only [sX11_findsOn, List.mem_cons, List.not_mem_nil, or_false]; omega) (fun _ _ => ?_)
      | refine zPr.bL (by assumption) (by simp only [sX11_findsOn, List.mem_cons, List.not_mem_nil, or_false]; omega) (fun _ _ => ?_)
      | refine zPr.wC (by assumption) (by simp only [sX11_findsOn, List.mem_cons, List.not_mem_nil, or_false]; omega) (fun _ _ => ?_)
      | refine zPr.aI (fun _ => ?_)
      | refine zPr.aL (fun _ => ?_)
      | refine zPr.gd ?_
      | refine zPr.bc (S' := sX11_breathNow) (by assumption) (mX11_breathNow ..) (fun p hp => by simp only [sX11_breathNow, sX11_findsOn, List.mem_cons, List.not_mem_nil, or_false] at hp ⊢ <;> omega) (fun _ _ _ => ?_)
      | refine zPr.bc (S' := sX11_worthAlone) (by assumption) (mX11_worthAlone ..) (fun p hp => by simp only [sX11_worthAlone, sX11_findsOn, List.mem_cons, List.not_mem_nil, or_false] at hp ⊢ <;> omega) (fun _ _ _ => ?_)
      | refine zPr.bnr (fun _ => ?_)
      | refine zPr.bnv (fun _ => ?_)
      | exact zPr.tail (S' := sX11_findsOn) (by assumption) (ih ..) (fun _ h => h)
      | exact zPr.tail (S' := sX11_findsOn) (by assumption) (mX11_findsOn_122 _ (by first | assumption | exact ih | (intros; apply ih) | (intros; apply mX11_findsOn_3)) ..) (fun _ h => h)
      | exact zPr.tail (S' := sX11_findsOn) (by assumption) (mX11_findsOn_110 _ (by first | assumption | exact ih | (intros; apply ih) | (intros; apply mX11_findsOn_3)) ..) (fun _ h => h)
      | exact zPr.tail (S' := sX11_findsOn) (by assumption) (mX11_findsOn_15 _ (by first | assumption | exact ih | (intros; apply ih) | (intros; apply mX11_findsOn_3)) ..) (fun _ h => h)
theorem mX11_findsOn (p1 : Int32) (p2 : Int32) (p3 : Int32) (p4 : Int64) (σ : zS) : zPr (sX11_findsOn σ.2.2) σ id (fX11_findsOn p1 p2 p3 p4 σ) := by
  unfold fX11_findsOn
  have hc := zSm.rfl (sX11_findsOn σ.2.2) σ
  repeat' first
    | exact zPr.none
    | exact zPr.some (by assumption)
    | refine zPr.ite ?_ ?_
    | refine zPr.wI (by assumption) (by simp only [sX11_findsOn, List.mem_cons, List.not_mem_nil, or_false]; omega) (fun _ _ => ?_)
    | refine zPr.wL (by assumption) (by simp only [sX11_findsOn, List.mem_cons, List.not_mem_nil, or_false]; omega) (fun _ _ => ?_)
    | refine zPr.bI (by assumption) (by simp only [sX11_findsOn, List.mem_cons, List.not_mem_nil, or_false]; omega) (fun _ _ => ?_)
    | refine zPr.bL (by assumption) (by simp only [sX11_findsOn, List.mem_cons, List.not_mem_nil, or_false]; omega) (fun _ _ => ?_)
    | refine zPr.wC (by assumption) (by simp only [sX11_findsOn, List.mem_cons, List.not_mem_nil, or_false]; omega) (fun _ _ => ?_)
    | refine zPr.aI (fun _ => ?_)
    | refine zPr.aL (fun _ => ?_)
    | refine zPr.gd ?_
    | refine zPr.bc (S' := sX11_breathNow) (by assumption) (mX11_breathNow ..) (fun p hp => by simp only [sX11_breathNow, sX11_findsOn, List.mem_cons, List.not_mem_nil, or_false] at hp ⊢ <;> omega) (fun _ _ _ => ?_)
    | refine zPr.bc (S' := sX11_worthAlone) (by assumption) (mX11_worthAlone ..) (fun p hp => by simp only [sX11_worthAlone, sX11_findsOn, List.mem_cons, List.not_mem_nil, or_false] at hp ⊢ <;> omega) (fun _ _ _ => ?_)
    | refine zPr.bnr (fun _ => ?_)
    | refine zPr.bnv (fun _ => ?_)
    | exact zPr.tail (S' := sX11_findsOn) (by assumption) (mX11_findsOn_122 _ (by first | assumption | exact ih | (intros; apply ih) | (intros; apply mX11_findsOn_3)) ..) (fun _ h => h)
    | exact zPr.tail (S' := sX11_findsOn) (by assumption) (mX11_findsOn_110 _ (by first | assumption | exact ih | (intros; apply ih) | (intros; apply mX11_findsOn_3)) ..) (fun _ h => h)
    | exact zPr.tail (S' := sX11_findsOn) (by assumption) (mX11_findsOn_15 _ (by first | assumption | exact ih | (intros; apply ih) | (intros; apply mX11_findsOn_3)) ..) (fun _ h => h)
    | exact zPr.tail (S' := sX11_findsOn) (by assumption) (mX11_findsOn_3 ..) (fun _ h => h)
def sX11_on (t : Bool × Bool × Bool) : List Nat := [56, 95, 97]
theorem mX11_on_174 (r72 : Int32 → Int32 → Int32 → Int64 → Int32 → zS → Option (Int32 × zS)) (hr72 : ∀ (x0 : Int32) (x1 : Int32) (x2 : Int32) (x3 : Int64) (x4 : Int32) (σ : zS), zPr (sX11_on σ.2.2) σ Prod.snd (r72 x0 x1 x2 x3 x4 σ)) (x1 : Int32) (x2 : Int32) (x3 : Int32) (x4 : Int64) (x6 : Int32) (x7 : Int32) (σ : zS) : zPr (sX11_on σ.2.2) σ Prod.snd (fX11_on_174 r72 x1 x2 x3 x4 x6 x7 σ) := by
  unfold fX11_on_174
  have hc := zSm.rfl (sX11_on σ.2.2) σ
  repeat' first
    | exact zPr.none
    | exact zPr.some (by assumption)
    | refine zPr.ite ?_ ?_
    | refine zPr.wI (by assumption) (by simp only [sX11_on, List.mem_cons, List.not_mem_nil, or_false]; omega) (fun _ _ => ?_)
    | refine zPr.wL (by assumption) (by simp only [sX11_on, List.mem_cons, List.not_mem_nil, or_false]; omega) (fun _ _ => ?_)
    | refine zPr.bI (by assumption) (by simp only [sX11_on, List.mem_cons, List.not_mem_nil, or_false]; omega) (fun _ _ => ?_)
    | refine zPr.bL (by assumption) (by simp only [sX11_on, List.mem_cons, List.not_mem_nil, or_false]; omega) (fun _ _ => ?_)
    | refine zPr.wC (by assumption) (by simp only [sX11_on, List.mem_cons, List.not_mem_nil, or_false]; omega) (fun _ _ => ?_)
    | refine zPr.aI (fun _ => ?_)
    | refine zPr.aL (fun _ => ?_)
    | refine zPr.gd ?_
    | refine zPr.bw (S' := sX11_findsOn) (by assumption) (mX11_findsOn ..) (fun p hp => by simp only [sX11_findsOn, sX11_on, List.mem_cons, List.not_mem_nil, or_false] at hp ⊢ <;> omega) (fun _ _ => ?_)
    | refine zPr.bnr (fun _ => ?_)
    | refine zPr.bnv (fun _ => ?_)
    | exact zPr.tail (S' := sX11_on) (by assumption) (hr72 ..) (fun _ h => h)
theorem mX11_on_106 (r72 : Int32 → Int32 → Int32 → Int64 → Int32 → zS → Option (Int32 × zS)) (hr72 : ∀ (x0 : Int32) (x1 : Int32) (x2 : Int32) (x3 : Int64) (x4 : Int32) (σ : zS), zPr (sX11_on σ.2.2) σ Prod.snd (r72 x0 x1 x2 x3 x4 σ)) : ∀ (fuel : Nat) (x1 : Int32) (x2 : Int32) (x3 : Int32) (x4 : Int64) (x6 : Int32) (x7 : Int32) (x8 : Int32) (σ : zS), zPr (sX11_on σ.2.2) σ Prod.snd (fX11_on_106 r72 fuel x1 x2 x3 x4 x6 x7 x8 σ) := by
  intro fuel
  induction fuel with
  | zero => intro x1 x2 x3 x4 x6 x7 x8 σ; exact zPr.none
  | succ f ih =>
    intro x1 x2 x3 x4 x6 x7 x8 σ
    rw [fX11_on_106]
    have hc := zSm.rfl (sX11_on σ.2.2) σ
    repeat' first
      | exact zPr.none
      | exact zPr.some (by assumption)
      | refine zPr.ite ?_ ?_
      | refine zPr.wI (by assumption) (by simp only [sX11_on, List.mem_cons, List.not_mem_nil, or_false]; omega) (fun _ _ => ?_)
      | refine zPr.wL (by assumption) (by simp only [sX11_on, List.mem_cons, List.not_mem_nil, or_false]; omega) (fun _ _ => ?_)
      | refine zPr.bI (by assumption) (by simp only [sX11_on, List.mem_cons, List.not_mem_nil, or_false]; omega) (fun _ _ => ?_)
      | refine zPr.bL (by assumption) (by simp only [sX11_on, List.mem_cons, List.not_mem_nil, or_false]; omega) (fun _ _ => ?_)
      | refine zPr.wC (by assumption) (by simp only [sX11_on, List.mem_cons, List.not_mem_nil, or_false]; omega) (fun _ _ => ?_)
      | refine zPr.aI (fun _ => ?_)
      | refine zPr.aL (fun _ => ?_)
      | refine zPr.gd ?_
      | refine zPr.bw (S' := sX11_findsOn) (by assumption) (mX11_findsOn ..) (fun p hp => by simp only [sX11_findsOn, sX11_on, List.mem_cons, List.not_mem_nil, or_false] at hp ⊢ <;> omega) (fun _ _ => ?_)
      | refine zPr.bnr (fun _ => ?_)
      | refine zPr.bnv (fun _ => ?_)
      | exact zPr.tail (S' := sX11_on) (by assumption) (ih ..) (fun _ h => h)
      | exact zPr.tail (S' := sX11_on) (by assumption) (hr72 ..) (fun _ h => h)
      | exact zPr.tail (S' := sX11_on) (by assumption) (mX11_on_174 _ (by first | assumption | exact ih | (intros; apply ih) | (intros; apply mX11_on_72)) ..) (fun _ h => h)
theorem mX11_on_72 : ∀ (fuel : Nat) (x1 : Int32) (x2 : Int32) (x3 : Int32) (x4 : Int64) (x6 : Int32) (σ : zS), zPr (sX11_on σ.2.2) σ Prod.snd (fX11_on_72 fuel x1 x2 x3 x4 x6 σ) := by
  intro fuel
  induction fuel with
  | zero => intro x1 x2 x3 x4 x6 σ; exact zPr.none
  | succ f ih =>
    intro x1 x2 x3 x4 x6 σ
    rw [fX11_on_72]
    have hc := zSm.rfl (sX11_on σ.2.2) σ
    repeat' first
      | exact zPr.none
      | exact zPr.some (by assumption)
      | refine zPr.ite ?_ ?_
      | refine zPr.wI (by assumption) (by simp only [sX11_on, List.mem_cons, List.not_mem_nil, or_false]; omega) (fun _ _ => ?_)
      | refine zPr.wL (by assumption) (by simp only [sX11_on, List.mem_cons, List.not_mem_nil, or_false]; omega) (fun _ _ => ?_)
      | refine zPr.bI (by assumption) (by simp only [sX11_on, List.mem_cons, List.not_mem_nil, or_false]; omega) (fun _ _ => ?_)
      | refine zPr.bL (by assumption) (by simp only [sX11_on, List.mem_cons, List.not_mem_nil, or_false]; omega) (fun _ _ => ?_)
      | refine zPr.wC (by assumption) (by simp only [sX11_on, List.mem_cons, List.not_mem_nil, or_false]; omega) (fun _ _ => ?_)
      | refine zPr.aI (fun _ => ?_)
      | refine zPr.aL (fun _ => ?_)
      | refine zPr.gd ?_
      | refine zPr.bw (S' := sX11_findsOn) (by assumption) (mX11_findsOn ..) (fun p hp => by simp only [sX11_findsOn, sX11_on, List.mem_cons, List.not_mem_nil, or_false] at hp ⊢ <;> omega) (fun _ _ => ?_)
      | refine zPr.bnr (fun _ => ?_)
      | refine zPr.bnv (fun _ => ?_)
      | exact zPr.tail (S' := sX11_on) (by assumption) (ih ..) (fun _ h => h)
      | exact zPr.tail (S' := sX11_on) (by assumption) (mX11_on_174 _ (by first | assumption | exact ih | (intros; apply ih) | (intros; apply mX11_on_72)) ..) (fun _ h => h)
      | exact zPr.tail (S' := sX11_on) (by assumption) (mX11_on_106 _ (by first | assumption | exact ih | (intros; apply ih) | (intros; apply mX11_on_72)) ..) (fun _ h => h)
theorem mX11_on_45 : ∀ (fuel : Nat) (x1 : Int32) (x2 : Int32) (x3 : Int32) (x4 : Int32) (σ : zS), zPr (sX11_on σ.2.2) σ Prod.snd (fX11_on_45 fuel x1 x2 x3 x4 σ) := by
  intro fuel
  induction fuel with
  | zero => intro x1 x2 x3 x4 σ; exact zPr.none
  | succ f ih =>
    intro x1 x2 x3 x4 σ
    rw [fX11_on_45]
    have hc := zSm.rfl (sX11_on σ.2.2) σ
    repeat' first
      | exact zPr.none
      | exact zPr.some (by assumption)
      | refine zPr.ite ?_ ?_
      | refine zPr.wI (by assumption) (by simp only [sX11_on, List.mem_cons, List.not_mem_nil, or_false]; omega) (fun _ _ => ?_)
      | refine zPr.wL (by assumption) (by simp only [sX11_on, List.mem_cons, List.not_mem_nil, or_false]; omega) (fun _ _ => ?_)
      | refine zPr.bI (by assumption) (by simp only [sX11_on, List.mem_cons, List.not_mem_nil, or_false]; omega) (fun _ _ => ?_)
      | refine zPr.bL (by assumption) (by simp only [sX11_on, List.mem_cons, List.not_mem_nil, or_false]; omega) (fun _ _ => ?_)
      | refine zPr.wC (by assumption) (by simp only [sX11_on, List.mem_cons, List.not_mem_nil, or_false]; omega) (fun _ _ => ?_)
      | refine zPr.aI (fun _ => ?_)
      | refine zPr.aL (fun _ => ?_)
      | refine zPr.gd ?_
      | refine zPr.bw (S' := sX11_findsOn) (by assumption) (mX11_findsOn ..) (fun p hp => by simp only [sX11_findsOn, sX11_on, List.mem_cons, List.not_mem_nil, or_false] at hp ⊢ <;> omega) (fun _ _ => ?_)
      | refine zPr.bnr (fun _ => ?_)
      | refine zPr.bnv (fun _ => ?_)
      | exact zPr.tail (S' := sX11_on) (by assumption) (ih ..) (fun _ h => h)
      | exact zPr.tail (S' := sX11_on) (by assumption) (mX11_on_174 _ (by first | assumption | exact ih | (intros; apply ih) | (intros; apply mX11_on_72)) ..) (fun _ h => h)
      | exact zPr.tail (S' := sX11_on) (by assumption) (mX11_on_106 _ (by first | assumption | exact ih | (intros; apply ih) | (intros; apply mX11_on_72)) ..) (fun _ h => h)
      | exact zPr.tail (S' := sX11_on) (by assumption) (mX11_on_72 ..) (fun _ h => h)
theorem mX11_on (p1 : Int32) (p2 : Int32) (p3 : Int32) (σ : zS) : zPr (sX11_on σ.2.2) σ Prod.snd (fX11_on p1 p2 p3 σ) := by
  unfold fX11_on
  have hc := zSm.rfl (sX11_on σ.2.2) σ
  repeat' first
    | exact zPr.none
    | exact zPr.some (by assumption)
    | refine zPr.ite ?_ ?_
    | refine zPr.wI (by assumption) (by simp only [sX11_on, List.mem_cons, List.not_mem_nil, or_false]; omega) (fun _ _ => ?_)
    | refine zPr.wL (by assumption) (by simp only [sX11_on, List.mem_cons, List.not_mem_nil, or_false]; omega) (fun _ _ => ?_)
    | refine zPr.bI (by assumption) (by simp only [sX11_on, List.mem_cons, List.not_mem_nil, or_false]; omega) (fun _ _ => ?_)
    | refine zPr.bL (by assumption) (by simp only [sX11_on, List.mem_cons, List.not_mem_nil, or_false]; omega) (fun _ _ => ?_)
    | refine zPr.wC (by assumption) (by simp only [sX11_on, List.mem_cons, List.not_mem_nil, or_false]; omega) (fun _ _ => ?_)
    | refine zPr.aI (fun _ => ?_)
    | refine zPr.aL (fun _ => ?_)
    | refine zPr.gd ?_
    | refine zPr.bw (S' := sX11_findsOn) (by assumption) (mX11_findsOn ..) (fun p hp => by simp only [sX11_findsOn, sX11_on, List.mem_cons, List.not_mem_nil, or_false] at hp ⊢ <;> omega) (fun _ _ => ?_)
    | refine zPr.bnr (fun _ => ?_)
    | refine zPr.bnv (fun _ => ?_)
    | exact zPr.tail (S' := sX11_on) (by assumption) (mX11_on_174 _ (by first | assumption | exact ih | (intros; apply ih) | (intros; apply mX11_on_72)) ..) (fun _ h => h)
    | exact zPr.tail (S' := sX11_on) (by assumption) (mX11_on_106 _ (by first | assumption | exact ih | (intros; apply ih) | (intros; apply mX11_on_72)) ..) (fun _ h => h)
    | exact zPr.tail (S' := sX11_on) (by assumption) (mX11_on_72 ..) (fun _ h => h)
    | exact zPr.tail (S' := sX11_on) (by assumption) (mX11_on_45 ..) (fun _ h => h)
def sX11_worthBy (t : Bool × Bool × Bool) : List Nat := [56, 95, 96]
theorem mX11_worthBy_67 (r6 : Int32 → Int32 → Int32 → Int64 → Int32 → zS → Option (Int64 × zS)) (r28 : Int32 → Int32 → Int32 → Int64 → Int32 → Int32 → Int32 → zS → Option (Int64 × zS)) (hr6 : ∀ (x0 : Int32) (x1 : Int32) (x2 : Int32) (x3 : Int64) (x4 : Int32) (σ : zS), zPr (sX11_worthBy σ.2.2) σ Prod.snd (r6 x0 x1 x2 x3 x4 σ)) (hr28 : ∀ (x0 : Int32) (x1 : Int32) (x2 : Int32) (x3 : Int64) (x4 : Int32) (x5 : Int32) (x6 : Int32) (σ : zS), zPr (sX11_worthBy σ.2.2) σ Prod.snd (r28 x0 x1 x2 x3 x4 x5 x6 σ)) (x1 : Int32) (x2 : Int32) (x3 : Int32) (x4 : Int64) (x6 : Int32) (x7 : Int32) (x8 : Int32) (s0 : Int32) (s1 : Int32) (s2 : Int32) (σ : zS) : zPr (sX11_worthBy σ.2.2) σ Prod.snd (fX11_worthBy_67 r6 r28 x1 x2 x3 x4 x6 x7 x8 s0 s1 s2 σ) := by
  unfold fX11_worthBy_67
  have hc := zSm.rfl (sX11_worthBy σ.2.2) σ
  repeat' first
    | exact zPr.none
    | exact zPr.some (by assumption)
    | refine zPr.ite ?_ ?_
    | refine zPr.wI (by assumption) (by simp only [sX11_worthBy, List.mem_cons, List.not_mem_nil, or_false]; omega) (fun _ _ => ?_)
    | refine zPr.wL (by assumption) (by simp only [sX11_worthBy, List.mem_cons, List.not_mem_nil, or_false]; omega) (fun _ _ => ?_)
    | refine zPr.bI (by assumption) (by simp only [sX11_worthBy, List.mem_cons, List.not_mem_nil, or_false]; omega) (fun _ _ => ?_)
    | refine zPr.bL (by assumption) (by simp only [sX11_worthBy, List.mem_cons, List.not_mem_nil, or_false]; omega) (fun _ _ => ?_)
    | refine zPr.wC (by assumption) (by simp only [sX11_worthBy, List.mem_cons, List.not_mem_nil, or_false]; omega) (fun _ _ => ?_)
    | refine zPr.aI (fun _ => ?_)
    | refine zPr.aL (fun _ => ?_)
    | refine zPr.gd ?_
    | refine zPr.bc (S' := sX11_worthRow) (by assumption) (mX11_worthRow ..) (fun p hp => by simp only [sX11_worthRow, sX11_worthBy, List.mem_cons, List.not_mem_nil, or_false] at hp ⊢ <;> omega) (fun _ _ _ => ?_)
    | refine zPr.bnr (fun _ => ?_)
    | refine zPr.bnv (fun _ => ?_)
    | exact zPr.tail (S' := sX11_worthBy) (by assumption) (hr6 ..) (fun _ h => h)
    | exact zPr.tail (S' := sX11_worthBy) (by assumption) (hr28 ..) (fun _ h => h)
theorem mX11_worthBy_28 (r6 : Int32 → Int32 → Int32 → Int64 → Int32 → zS → Option (Int64 × zS)) (hr6 : ∀ (x0 : Int32) (x1 : Int32) (x2 : Int32) (x3 : Int64) (x4 : Int32) (σ : zS), zPr (sX11_worthBy σ.2.2) σ Prod.snd (r6 x0 x1 x2 x3 x4 σ)) : ∀ (fuel : Nat) (x1 : Int32) (x2 : Int32) (x3 : Int32) (x4 : Int64) (x6 : Int32) (x7 : Int32) (x8 : Int32) (σ : zS), zPr (sX11_worthBy σ.2.2) σ Prod.snd (fX11_worthBy_28 r6 fuel x1 x2 x3 x4 x6 x7 x8 σ) := by
  intro fuel
  induction fuel with
  | zero => intro x1 x2 x3 x4 x6 x7 x8 σ; exact zPr.none
  | succ f ih =>
    intro x1 x2 x3 x4 x6 x7 x8 σ
    rw [fX11_worthBy_28]
    have hc := zSm.rfl (sX11_worthBy σ.2.2) σ
    repeat' first
      | exact zPr.none
      | exact zPr.some (by assumption)
      | refine zPr.ite ?_ ?_
      | refine zPr.wI (by assumption) (by simp only [sX11_worthBy, List.mem_cons, List.not_mem_nil, or_false]; omega) (fun _ _ => ?_)
      | refine zPr.wL (by assumption) (by simp only [sX11_worthBy, List.mem_cons, List.not_mem_nil, or_false]; omega) (fun _ _ => ?_)
      | refine zPr.bI (by assumption) (by simp only [sX11_worthBy, List.mem_cons, List.not_mem_nil, or_false]; omega) (fun _ _ => ?_)
      | refine zPr.bL (by assumption) (by simp only [sX11_worthBy, List.mem_cons, List.not_mem_nil, or_false]; omega) (fun _ _ => ?_)
      | refine zPr.wC (by assumption) (by simp only [sX11_worthBy, List.mem_cons, List.not_mem_nil, or_false]; omega) (fun _ _ => ?_)
      | refine zPr.aI (fun _ => ?_)
      | refine zPr.aL (fun _ => ?_)
      | refine zPr.gd ?_
      | refine zPr.bc (S' := sX11_worthRow) (by assumption) (mX11_worthRow ..) (fun p hp => by simp only [sX11_worthRow, sX11_worthBy, List.mem_cons, List.not_mem_nil, or_false] at hp ⊢ <;> omega) (fun _ _ _ => ?_)
      | refine zPr.bnr (fun _ => ?_)
      | refine zPr.bnv (fun _ => ?_)
      | exact zPr.tail (S' := sX11_worthBy) (by assumption) (ih ..) (fun _ h => h)
      | exact zPr.tail (S' := sX11_worthBy) (by assumption) (hr6 ..) (fun _ h => h)
      | exact zPr.tail (S' := sX11_worthBy) (by assumption) (mX11_worthBy_67 _ _ (by first | assumption | exact ih | (intros; apply ih) | (intros; apply mX11_worthBy_6)) (by first | assumption | exact ih | (intros; apply ih) | (intros; apply mX11_worthBy_28)) ..) (fun _ h => h)
theorem mX11_worthBy_6 : ∀ (fuel : Nat) (x1 : Int32) (x2 : Int32) (x3 : Int32) (x4 : Int64) (x6 : Int32) (σ : zS), zPr (sX11_worthBy σ.2.2) σ Prod.snd (fX11_worthBy_6 fuel x1 x2 x3 x4 x6 σ) := by
  intro fuel
  induction fuel with
  | zero => intro x1 x2 x3 x4 x6 σ; exact zPr.none
  | succ f ih =>
    intro x1 x2 x3 x4 x6 σ
    rw [fX11_worthBy_6]
    have hc := zSm.rfl (sX11_worthBy σ.2.2) σ
    repeat' first
      | exact zPr.none
      | exact zPr.some (by assumption)
      | refine zPr.ite ?_ ?_
      | refine zPr.wI (by assumption) (by simp only [sX11_worthBy, List.mem_cons, List.not_mem_nil, or_false]; omega) (fun _ _ => ?_)
      | refine zPr.wL (by assumption) (by simp only [sX11_worthBy, List.mem_cons, List.not_mem_nil, or_false]; omega) (fun _ _ => ?_)
      | refine zPr.bI (by assumption) (by simp only [sX11_worthBy, List.mem_cons, List.not_mem_nil, or_false]; omega) (fun _ _ => ?_)
      | refine zPr.bL (by assumption) (by simp only [sX11_worthBy, List.mem_cons, List.not_mem_nil, or_false]; omega) (fun _ _ => ?_)
      | refine zPr.wC (by assumption) (by simp only [sX11_worthBy, List.mem_cons, List.not_mem_nil, or_false]; omega) (fun _ _ => ?_)
      | refine zPr.aI (fun _ => ?_)
      | refine zPr.aL (fun _ => ?_)
      | refine zPr.gd ?_
      | refine zPr.bc (S' := sX11_worthRow) (by assumption) (mX11_worthRow ..) (fun p hp => by simp only [sX11_worthRow, sX11_worthBy, List.mem_cons, List.not_mem_nil, or_false] at hp ⊢ <;> omega) (fun _ _ _ => ?_)
      | refine zPr.bnr (fun _ => ?_)
      | refine zPr.bnv (fun _ => ?_)
      | exact zPr.tail (S' := sX11_worthBy) (by assumption) (ih ..) (fun _ h => h)
      | exact zPr.tail (S' := sX11_worthBy) (by assumption) (mX11_worthBy_67 _ _ (by first | assumption | exact ih | (intros; apply ih) | (intros; apply mX11_worthBy_6)) (by first | assumption | exact ih | (intros; apply ih) | (intros; apply mX11_worthBy_28)) ..) (fun _ h => h)
      | exact zPr.tail (S' := sX11_worthBy) (by assumption) (mX11_worthBy_28 _ (by first | assumption | exact ih | (intros; apply ih) | (intros; apply mX11_worthBy_6)) ..) (fun _ h => h)
theorem mX11_worthBy (p1 : Int32) (p2 : Int32) (p3 : Int32) (σ : zS) : zPr (sX11_worthBy σ.2.2) σ Prod.snd (fX11_worthBy p1 p2 p3 σ) := by
  unfold fX11_worthBy
  have hc := zSm.rfl (sX11_worthBy σ.2.2) σ
  repeat' first
    | exact zPr.none
    | exact zPr.some (by assumption)
    | refine zPr.ite ?_ ?_
    | refine zPr.wI (by assumption) (by simp only [sX11_worthBy, List.mem_cons, List.not_mem_nil, or_false]; omega) (fun _ _ => ?_)
    | refine zPr.wL (by assumption) (by simp only [sX11_worthBy, List.mem_cons, List.not_mem_nil, or_false]; omega) (fun _ _ => ?_)
    | refine zPr.bI (by assumption) (by simp only [sX11_worthBy, List.mem_cons, List.not_mem_nil, or_false]; omega) (fun _ _ => ?_)
    | refine zPr.bL (by assumption) (by simp only [sX11_worthBy, List.mem_cons, List.not_mem_nil, or_false]; omega) (fun _ _ => ?_)
    | refine zPr.wC (by assumption) (by simp only [sX11_worthBy, List.mem_cons, List.not_mem_nil, or_false]; omega) (fun _ _ => ?_)
    | refine zPr.aI (fun _ => ?_)
    | refine zPr.aL (fun _ => ?_)
    | refine zPr.gd ?_
    | refine zPr.bc (S' := sX11_worthRow) (by assumption) (mX11_worthRow ..) (fun p hp => by simp only [sX11_worthRow, sX11_worthBy, List.mem_cons, List.not_mem_nil, or_false] at hp ⊢ <;> omega) (fun _ _ _ => ?_)
    | refine zPr.bnr (fun _ => ?_)
    | refine zPr.bnv (fun _ => ?_)
    | exact zPr.tail (S' := sX11_worthBy) (by assumption) (mX11_worthBy_67 _ _ (by first | assumption | exact ih | (intros; apply ih) | (intros; apply mX11_worthBy_6)) (by first | assumption | exact ih | (intros; apply ih) | (intros; apply mX11_worthBy_28)) ..) (fun _ h => h)
    | exact zPr.tail (S' := sX11_worthBy) (by assumption) (mX11_worthBy_28 _ (by first | assumption | exact ih | (intros; apply ih) | (intros; apply mX11_worthBy_6)) ..) (fun _ h => h)
    | exact zPr.tail (S' := sX11_worthBy) (by assumption) (mX11_worthBy_6 ..) (fun _ h => h)
def sX11_takes (t : Bool × Bool × Bool) : List Nat := [56, 95, 96, 98]
theorem mX11_takes_79 (x1 : Int32) (x3 : Int32) (s0 : Int32) (σ : zS) : zPr (sX11_takes σ.2.2) σ Prod.snd (fX11_takes_79 x1 x3 s0 σ) := by
  unfold fX11_takes_79
  have hc := zSm.rfl (sX11_takes σ.2.2) σ
  repeat' first
    | exact zPr.none
    | exact zPr.some (by assumption)
    | refine zPr.ite ?_ ?_
    | refine zPr.wI (by assumption) (by simp only [sX11_takes, List.mem_cons, List.not_mem_nil, or_false]; omega) (fun _ _ => ?_)
    | refine zPr.wL (by assumption) (by simp only [sX11_takes, List.mem_cons, List.not_mem_nil, or_false]; omega) (fun _ _ => ?_)
    | refine zPr.bI (by assumption) (by simp only [sX11_takes, List.mem_cons, List.not_mem_nil, or_false]; omega) (fun _ _ => ?_)
    | refine zPr.bL (by assumption) (by simp only [sX11_takes, List.mem_cons, List.not_mem_nil, or_false]; omega) (fun _ _ => ?_)
    | refine zPr.wC (by assumption) (by simp only [sX11_takes, List.mem_cons, List.not_mem_nil, or_false]; omega) (fun _ _ => ?_)
    | refine zPr.aI (fun _ => ?_)
    | refine zPr.aL (fun _ => ?_)
    | refine zPr.gd ?_
    | refine zPr.bc (S' := sX11_worthBy) (by assumption) (mX11_worthBy ..) (fun p hp => by simp only [sX11_worthBy, sX11_takes, List.mem_cons, List.not_mem_nil, or_false] at hp ⊢ <;> omega) (fun _ _ _ => ?_)
    | refine zPr.bnr (fun _ => ?_)
    | refine zPr.bnv (fun _ => ?_)
theorem mX11_takes_58 (r19 : Int32 → Int32 → Int32 → Int64 → Int32 → zS → Option (Int32 × zS)) (hr19 : ∀ (x0 : Int32) (x1 : Int32) (x2 : Int32) (x3 : Int64) (x4 : Int32) (σ : zS), zPr (sX11_takes σ.2.2) σ Prod.snd (r19 x0 x1 x2 x3 x4 σ)) (x1 : Int32) (x2 : Int32) (x3 : Int32) (x4 : Int64) (x6 : Int32) (σ : zS) : zPr (sX11_takes σ.2.2) σ Prod.snd (fX11_takes_58 r19 x1 x2 x3 x4 x6 σ) := by
  unfold fX11_takes_58
  have hc := zSm.rfl (sX11_takes σ.2.2) σ
  repeat' first
    | exact zPr.none
    | exact zPr.some (by assumption)
    | refine zPr.ite ?_ ?_
    | refine zPr.wI (by assumption) (by simp only [sX11_takes, List.mem_cons, List.not_mem_nil, or_false]; omega) (fun _ _ => ?_)
    | refine zPr.wL (by assumption) (by simp only [sX11_takes, List.mem_cons, List.not_mem_nil, or_false]; omega) (fun _ _ => ?_)
    | refine zPr.bI (by assumption) (by simp only [sX11_takes, List.mem_cons, List.not_mem_nil, or_false]; omega) (fun _ _ => ?_)
    | refine zPr.bL (by assumption) (by simp only [sX11_takes, List.mem_cons, List.not_mem_nil, or_false]; omega) (fun _ _ => ?_)
    | refine zPr.wC (by assumption) (by simp only [sX11_takes, List.mem_cons, List.not_mem_nil, or_false]; omega) (fun _ _ => ?_)
    | refine zPr.aI (fun _ => ?_)
    | refine zPr.aL (fun _ => ?_)
    | refine zPr.gd ?_
    | refine zPr.bc (S' := sX11_worthBy) (by assumption) (mX11_worthBy ..) (fun p hp => by simp only [sX11_worthBy, sX11_takes, List.mem_cons, List.not_mem_nil, or_false] at hp ⊢ <;> omega) (fun _ _ _ => ?_)
    | refine zPr.bnr (fun _ => ?_)
    | refine zPr.bnv (fun _ => ?_)
    | exact zPr.tail (S' := sX11_takes) (by assumption) (hr19 ..) (fun _ h => h)
    | exact zPr.tail (S' := sX11_takes) (by assumption) (mX11_takes_79 ..) (fun _ h => h)
theorem mX11_takes_19 : ∀ (fuel : Nat) (x1 : Int32) (x2 : Int32) (x3 : Int32) (x4 : Int64) (x6 : Int32) (σ : zS), zPr (sX11_takes σ.2.2) σ Prod.snd (fX11_takes_19 fuel x1 x2 x3 x4 x6 σ) := by
  intro fuel
  induction fuel with
  | zero => intro x1 x2 x3 x4 x6 σ; exact zPr.none
  | succ f ih =>
    intro x1 x2 x3 x4 x6 σ
    rw [fX11_takes_19]
    have hc := zSm.rfl (sX11_takes σ.2.2) σ
    repeat' first
      | exact zPr.none
      | exact zPr.some (by assumption)
      | refine zPr.ite ?_ ?_
      | refine zPr.wI (by assumption) (by simp only [sX11_takes, List.mem_cons, List.not_mem_nil, or_false]; omega) (fun _ _ => ?_)
      | refine zPr.wL (by assumption) (by simp only [sX11_takes, List.mem_cons, List.not_mem_nil, or_false]; omega) (fun _ _ => ?_)
      | refine zPr.bI (by assumption) (by simp only [sX11_takes, List.mem_cons, List.not_mem_nil, or_false]; omega) (fun _ _ => ?_)
      | refine zPr.bL (by assumption) (by simp only [sX11_takes, List.mem_cons, List.not_mem_nil, or_false]; omega) (fun _ _ => ?_)
      | refine zPr.wC (by assumption) (by simp only [sX11_takes, List.mem_cons, List.not_mem_nil, or_false]; omega) (fun _ _ => ?_)
      | refine zPr.aI (fun _ => ?_)
      | refine zPr.aL (fun _ => ?_)
      | refine zPr.gd ?_
      | refine zPr.bc (S' := sX11_worthBy) (by assumption) (mX11_worthBy ..) (fun p hp => by simp only [sX11_worthBy, sX11_takes, List.mem_cons, List.not_mem_nil, or_false] at hp ⊢ <;> omega) (fun _ _ _ => ?_)
      | refine zPr.bnr (fun _ => ?_)
      | refine zPr.bnv (fun _ => ?_)
      | exact zPr.tail (S' := sX11_takes) (by assumption) (ih ..) (fun _ h => h)
      | exact zPr.tail (S' := sX11_takes) (by assumption) (mX11_takes_79 ..) (fun _ h => h)
      | exact zPr.tail (S' := sX11_takes) (by assumption) (mX11_takes_58 _ (by first | assumption | exact ih | (intros; apply ih) | (intros; apply mX11_takes_19)) ..) (fun _ h => h)
theorem mX11_takes (p1 : Int32) (p2 : Int32) (σ : zS) : zPr (sX11_takes σ.2.2) σ Prod.snd (fX11_takes p1 p2 σ) := by
  unfold fX11_takes
  have hc := zSm.rfl (sX11_takes σ.2.2) σ
  repeat' first
    | exact zPr.none
    | exact zPr.some (by assumption)
    | refine zPr.ite ?_ ?_
    | refine zPr.wI (by assumption) (by simp only [sX11_takes, List.mem_cons, List.not_mem_nil, or_false]; omega) (fun _ _ => ?_)
    | refine zPr.wL (by assumption) (by simp only [sX11_takes, List.mem_cons, List.not_mem_nil, or_false]; omega) (fun _ _ => ?_)
    | refine zPr.bI (by assumption) (by simp only [sX11_takes, List.mem_cons, List.not_mem_nil, or_false]; omega) (fun _ _ => ?_)
    | refine zPr.bL (by assumption) (by simp only [sX11_takes, List.mem_cons, List.not_mem_nil, or_false]; omega) (fun _ _ => ?_)
    | refine zPr.wC (by assumption) (by simp only [sX11_takes, List.mem_cons, List.not_mem_nil, or_false]; omega) (fun _ _ => ?_)
    | refine zPr.aI (fun _ => ?_)
    | refine zPr.aL (fun _ => ?_)
    | refine zPr.gd ?_
    | refine zPr.bc (S' := sX11_worthBy) (by assumption) (mX11_worthBy ..) (fun p hp => by simp only [sX11_worthBy, sX11_takes, List.mem_cons, List.not_mem_nil, or_false] at hp ⊢ <;> omega) (fun _ _ _ => ?_)
    | refine zPr.bnr (fun _ => ?_)
    | refine zPr.bnv (fun _ => ?_)
    | exact zPr.tail (S' := sX11_takes) (by assumption) (mX11_takes_79 ..) (fun _ h => h)
    | exact zPr.tail (S' := sX11_takes) (by assumption) (mX11_takes_58 _ (by first | assumption | exact ih | (intros; apply ih) | (intros; apply mX11_takes_19)) ..) (fun _ h => h)
    | exact zPr.tail (S' := sX11_takes) (by assumption) (mX11_takes_19 ..) (fun _ h => h)
def sX11_rest (t : Bool × Bool × Bool) : List Nat := [56, 95, 96, 98]
theorem mX11_rest_119 (x2 : Int32) (x3 : Int32) (x4 : Int32) (σ : zS) : zPr (sX11_rest σ.2.2) σ Prod.snd (fX11_rest_119 x2 x3 x4 σ) := by
  unfold fX11_rest_119
  have hc := zSm.rfl (sX11_rest σ.2.2) σ
  repeat' first
    | exact zPr.none
    | exact zPr.some (by assumption)
    | refine zPr.ite ?_ ?_
    | refine zPr.wI (by assumption) (by simp only [sX11_rest, List.mem_cons, List.not_mem_nil, or_false]; omega) (fun _ _ => ?_)
    | refine zPr.wL (by assumption) (by simp only [sX11_rest, List.mem_cons, List.not_mem_nil, or_false]; omega) (fun _ _ => ?_)
    | refine zPr.bI (by assumption) (by simp only [sX11_rest, List.mem_cons, List.not_mem_nil, or_false]; omega) (fun _ _ => ?_)
    | refine zPr.bL (by assumption) (by simp only [sX11_rest, List.mem_cons, List.not_mem_nil, or_false]; omega) (fun _ _ => ?_)
    | refine zPr.wC (by assumption) (by simp only [sX11_rest, List.mem_cons, List.not_mem_nil, or_false]; omega) (fun _ _ => ?_)
    | refine zPr.aI (fun _ => ?_)
    | refine zPr.aL (fun _ => ?_)
    | refine zPr.gd ?_
    | refine zPr.bc (S' := sX11_takes) (by assumption) (mX11_takes ..) (fun p hp => by simp only [sX11_takes, sX11_rest, List.mem_cons, List.not_mem_nil, or_false] at hp ⊢ <;> omega) (fun _ _ _ => ?_)
    | refine zPr.bnr (fun _ => ?_)
    | refine zPr.bnv (fun _ => ?_)
theorem mX11_rest_108 (r54 : Int32 → Int32 → Int32 → Int32 → zS → Option (Int32 × zS)) (r74 : Int32 → Int32 → Int32 → Int32 → Int32 → zS → Option (Int32 × zS)) (hr54 : ∀ (x0 : Int32) (x1 : Int32) (x2 : Int32) (x3 : Int32) (σ : zS), zPr (sX11_rest σ.2.2) σ Prod.snd (r54 x0 x1 x2 x3 σ)) (hr74 : ∀ (x0 : Int32) (x1 : Int32) (x2 : Int32) (x3 : Int32) (x4 : Int32) (σ : zS), zPr (sX11_rest σ.2.2) σ Prod.snd (r74 x0 x1 x2 x3 x4 σ)) (x1 : Int32) (x2 : Int32) (x3 : Int32) (x5 : Int32) (s0 : Int32) (σ : zS) : zPr (sX11_rest σ.2.2) σ Prod.snd (fX11_rest_108 r54 r74 x1 x2 x3 x5 s0 σ) := by
  unfold fX11_rest_108
  have hc := zSm.rfl (sX11_rest σ.2.2) σ
  repeat' first
    | exact zPr.none
    | exact zPr.some (by assumption)
    | refine zPr.ite ?_ ?_
    | refine zPr.wI (by assumption) (by simp only [sX11_rest, List.mem_cons, List.not_mem_nil, or_false]; omega) (fun _ _ => ?_)
    | refine zPr.wL (by assumption) (by simp only [sX11_rest, List.mem_cons, List.not_mem_nil, or_false]; omega) (fun _ _ => ?_)
    | refine zPr.bI (by assumption) (by simp only [sX11_rest, List.mem_cons, List.not_mem_nil, or_false]; omega) (fun _ _ => ?_)
    | refine zPr.bL (by assumption) (by simp only [sX11_rest, List.mem_cons, List.not_mem_nil, or_false]; omega) (fun _ _ => ?_)
    | refine zPr.wC (by assumption) (by simp only [sX11_rest, List.mem_cons, List.not_mem_nil, or_false]; omega) (fun _ _ => ?_)
    | refine zPr.aI (fun _ => ?_)
    | refine zPr.aL (fun _ => ?_)
    | refine zPr.gd ?_
    | refine zPr.bc (S' := sX11_takes) (by assumption) (mX11_takes ..) (fun p hp => by simp only [sX11_takes, sX11_rest, List.mem_cons, List.not_mem_nil, or_false] at hp ⊢ <;> omega) (fun _ _ _ => ?_)
    | refine zPr.bnr (fun _ => ?_)
    | refine zPr.bnv (fun _ => ?_)
    | exact zPr.tail (S' := sX11_rest) (by assumption) (hr54 ..) (fun _ h => h)
    | exact zPr.tail (S' := sX11_rest) (by assumption) (hr74 ..) (fun _ h => h)
    | exact zPr.tail (S' := sX11_rest) (by assumption) (mX11_rest_119 ..) (fun _ h => h)
theorem mX11_rest_103 (r54 : Int32 → Int32 → Int32 → Int32 → zS → Option (Int32 × zS)) (r74 : Int32 → Int32 → Int32 → Int32 → Int32 → zS → Option (Int32 × zS)) (hr54 : ∀ (x0 : Int32) (x1 : Int32) (x2 : Int32) (x3 : Int32) (σ : zS), zPr (sX11_rest σ.2.2) σ Prod.snd (r54 x0 x1 x2 x3 σ)) (hr74 : ∀ (x0 : Int32) (x1 : Int32) (x2 : Int32) (x3 : Int32) (x4 : Int32) (σ : zS), zPr (sX11_rest σ.2.2) σ Prod.snd (r74 x0 x1 x2 x3 x4 σ)) (x1 : Int32) (x2 : Int32) (x3 : Int32) (x5 : Int32) (σ : zS) : zPr (sX11_rest σ.2.2) σ Prod.snd (fX11_rest_103 r54 r74 x1 x2 x3 x5 σ) := by
  unfold fX11_rest_103
  have hc := zSm.rfl (sX11_rest σ.2.2) σ
  repeat' first
    | exact zPr.none
    | exact zPr.some (by assumption)
    | refine zPr.ite ?_ ?_
    | refine zPr.wI (by assumption) (by simp only [sX11_rest, List.mem_cons, List.not_mem_nil, or_false]; omega) (fun _ _ => ?_)
    | refine zPr.wL (by assumption) (by simp only [sX11_rest, List.mem_cons, List.not_mem_nil, or_false]; omega) (fun _ _ => ?_)
    | refine zPr.bI (by assumption) (by simp only [sX11_rest, List.mem_cons, List.not_mem_nil, or_false]; omega) (fun _ _ => ?_)
    | refine zPr.bL (by assumption) (by simp only [sX11_rest, List.mem_cons, List.not_mem_nil, or_false]; omega) (fun _ _ => ?_)
    | refine zPr.wC (by assumption) (by simp only [sX11_rest, List.mem_cons, List.not_mem_nil, or_false]; omega) (fun _ _ => ?_)
    | refine zPr.aI (fun _ => ?_)
    | refine zPr.aL (fun _ => ?_)
    | refine zPr.gd ?_
    | refine zPr.bc (S' := sX11_takes) (by assumption) (mX11_takes ..) (fun p hp => by simp only [sX11_takes, sX11_rest, List.mem_cons, List.not_mem_nil, or_false] at hp ⊢ <;> omega) (fun _ _ _ => ?_)
    | refine zPr.bnr (fun _ => ?_)
    | refine zPr.bnv (fun _ => ?_)
    | exact zPr.tail (S' := sX11_rest) (by assumption) (hr54 ..) (fun _ h => h)
    | exact zPr.tail (S' := sX11_rest) (by assumption) (hr74 ..) (fun _ h => h)
    | exact zPr.tail (S' := sX11_rest) (by assumption) (mX11_rest_119 ..) (fun _ h => h)
    | exact zPr.tail (S' := sX11_rest) (by assumption) (mX11_rest_108 _ _ (by first | assumption | exact ih | (intros; apply ih) | (intros; apply mX11_rest_54)) (by first | assumption | exact ih | (intros; apply ih) | (intros; apply mX11_rest_74)) ..) (fun _ h => h)
theorem mX11_rest_74 (r54 : Int32 → Int32 → Int32 → Int32 → zS → Option (Int32 × zS)) (hr54 : ∀ (x0 : Int32) (x1 : Int32) (x2 : Int32) (x3 : Int32) (σ : zS), zPr (sX11_rest σ.2.2) σ Prod.snd (r54 x0 x1 x2 x3 σ)) : ∀ (fuel : Nat) (x1 : Int32) (x2 : Int32) (x3 : Int32) (x4 : Int32) (x5 : Int32) (σ : zS), zPr (sX11_rest σ.2.2) σ Prod.snd (fX11_rest_74 r54 fuel x1 x2 x3 x4 x5 σ) := by
  intro fuel
  induction fuel with
  | zero => intro x1 x2 x3 x4 x5 σ; exact zPr.none
  | succ f ih =>
    intro x1 x2 x3 x4 x5 σ
    rw [fX11_rest_74]
    have hc := zSm.rfl (sX11_rest σ.2.2) σ
    repeat' first
      | exact zPr.none
      | exact zPr.some (by assumption)
      | refine zPr.ite ?_ ?_
      | refine zPr.wI (by assumption) (by simp only [sX11_rest, List.mem_cons, List.not_mem_nil, or_false]; omega) (fun _ _ => ?_)
      | refine zPr.wL (by assumption) (by simp only [sX11_rest, List.mem_cons, List.not_mem_nil, or_false]; omega) (fun _ _ => ?_)
      | refine zPr.bI (by assumption) (by simp only [sX11_rest, List.mem_cons, List.not_mem_nil, or_false]; omega) (fun _ _ => ?_)
      | refine zPr.bL (by assumption) (by simp only [sX11_rest, List.mem_cons, List.not_mem_nil, or_false]; omega) (fun _ _ => ?_)
      | refine zPr.wC (by assumption) (by simp only [sX11_rest, List.mem_cons, List.not_mem_nil, or_false]; omega) (fun _ _ => ?_)
      | refine zPr.aI (fun _ => ?_)
      | refine zPr.aL (fun _ => ?_)
      | refine zPr.gd ?_
      | refine zPr.bc (S' := sX11_takes) (by assumption) (mX11_takes ..) (fun p hp => by simp only [sX11_takes, sX11_rest, List.mem_cons, List.not_mem_nil, or_false] at hp ⊢ <;> omega) (fun _ _ _ => ?_)
      | refine zPr.bnr (fun _ => ?_)
      | refine zPr.bnv (fun _ => ?_)
      | exact zPr.tail (S' := sX11_rest) (by assumption) (ih ..) (fun _ h => h)
      | exact zPr.tail (S' := sX11_rest) (by assumption) (hr54 ..) (fun _ h => h)
      | exact zPr.tail (S' := sX11_rest) (by assumption) (mX11_rest_119 ..) (fun _ h => h)
      | exact zPr.tail (S' := sX11_rest) (by assumption) (mX11_rest_108 _ _ (by first | assumption | exact ih | (intros; apply ih) | (intros; apply mX11_rest_54)) (by first | assumption | exact ih | (intros; apply ih) | (intros; apply mX11_rest_74)) ..) (fun _ h => h)
      | exact zPr.tail (S' := sX11_rest) (by assumption) (mX11_rest_103 _ _ (by first | assumption | exact ih | (intros; apply ih) | (intros; apply mX11_rest_54)) (by first | assumption | exact ih | (intros; apply ih) | (intros; apply mX11_rest_74)) ..) (fun _ h => h)
theorem mX11_rest_54 : ∀ (fuel : Nat) (x1 : Int32) (x2 : Int32) (x3 : Int32) (x4 : Int32) (σ : zS), zPr (sX11_rest σ.2.2) σ Prod.snd (fX11_rest_54 fuel x1 x2 x3 x4 σ) := by
  intro fuel
  induction fuel with
  | zero => intro x1 x2 x3 x4 σ; exact zPr.none
  | succ f ih =>
    intro x1 x2 x3 x4 σ
    rw [fX11_rest_54]
    have hc := zSm.rfl (sX11_rest σ.2.2) σ
    repeat' first
      | exact zPr.none
      | exact zPr.some (by assumption)
      | refine zPr.ite ?_ ?_
      | refine zPr.wI (by assumption) (by simp only [sX11_rest, List.mem_cons, List.not_mem_nil, or_false]; omega) (fun _ _ => ?_)
      | refine zPr.wL (by assumption) (by simp only [sX11_rest, List.mem_cons, List.not_mem_nil, or_false]; omega) (fun _ _ => ?_)
      | refine zPr.bI (by assumption) (by simp only [sX11_rest, List.mem_cons, List.not_mem_nil, or_false]; omega) (fun _ _ => ?_)
      | refine zPr.bL (by assumption) (by simp only [sX11_rest, List.mem_cons, List.not_mem_nil, or_false]; omega) (fun _ _ => ?_)
      | refine zPr.wC (by assumption) (by simp only [sX11_rest, List.mem_cons, List.not_mem_nil, or_false]; omega) (fun _ _ => ?_)
      | refine zPr.aI (fun _ => ?_)
      | refine zPr.aL (fun _ => ?_)
      | refine zPr.gd ?_
      | refine zPr.bc (S' := sX11_takes) (by assumption) (mX11_takes ..) (fun p hp => by simp only [sX11_takes, sX11_rest, List.mem_cons, List.not_mem_nil, or_false] at hp ⊢ <;> omega) (fun _ _ _ => ?_)
      | refine zPr.bnr (fun _ => ?_)
      | refine zPr.bnv (fun _ => ?_)
      | exact zPr.tail (S' := sX11_rest) (by assumption) (ih ..) (fun _ h => h)
      | exact zPr.tail (S' := sX11_rest) (by assumption) (mX11_rest_119 ..) (fun _ h => h)
      | exact zPr.tail (S' := sX11_rest) (by assumption) (mX11_rest_108 _ _ (by first | assumption | exact ih | (intros; apply ih) | (intros; apply mX11_rest_54)) (by first | assumption | exact ih | (intros; apply ih) | (intros; apply mX11_rest_74)) ..) (fun _ h => h)
      | exact zPr.tail (S' := sX11_rest) (by assumption) (mX11_rest_103 _ _ (by first | assumption | exact ih | (intros; apply ih) | (intros; apply mX11_rest_54)) (by first | assumption | exact ih | (intros; apply ih) | (intros; apply mX11_rest_74)) ..) (fun _ h => h)
      | exact zPr.tail (S' := sX11_rest) (by assumption) (mX11_rest_74 _ (by first | assumption | exact ih | (intros; apply ih) | (intros; apply mX11_rest_54)) ..) (fun _ h => h)
theorem mX11_rest_25 : ∀ (fuel : Nat) (x1 : Int32) (x2 : Int32) (x3 : Int32) (σ : zS), zPr (sX11_rest σ.2.2) σ Prod.snd (fX11_rest_25 fuel x1 x2 x3 σ) := by
  intro fuel
  induction fuel with
  | zero => intro x1 x2 x3 σ; exact zPr.none
  | succ f ih =>
    intro x1 x2 x3 σ
    rw [fX11_rest_25]
    have hc := zSm.rfl (sX11_rest σ.2.2) σ
    repeat' first
      | exact zPr.none
      | exact zPr.some (by assumption)
      | refine zPr.ite ?_ ?_
      | refine zPr.wI (by assumption) (by simp only [sX11_rest, List.mem_cons, List.not_mem_nil, or_false]; omega) (fun _ _ => ?_)
      | refine zPr.wL (by assumption) (by simp only [sX11_rest, List.mem_cons, List.not_mem_nil, or_false]; omega) (fun _ _ => ?_)
      | refine zPr.bI (by assumption) (by simp only [sX11_rest, List.mem_cons, List.not_mem_nil, or_false]; omega) (fun _ _ => ?_)
      | refine zPr.bL (by assumption) (by simp only [sX11_rest, List.mem_cons, List.not_mem_nil, or_false]; omega) (fun _ _ => ?_)
      | refine zPr.wC (by assumption) (by simp only [sX11_rest, List.mem_cons, List.not_mem_nil, or_false]; omega) (fun _ _ => ?_)
      | refine zPr.aI (fun _ => ?_)
      | refine zPr.aL (fun _ => ?_)
      | refine zPr.gd ?_
      | refine zPr.bc (S' := sX11_takes) (by assumption) (mX11_takes ..) (fun p hp => by simp only [sX11_takes, sX11_rest, List.mem_cons, List.not_mem_nil, or_false] at hp ⊢ <;> omega) (fun _ _ _ => ?_)
      | refine zPr.bnr (fun _ => ?_)
      | refine zPr.bnv (fun _ => ?_)
      | exact zPr.tail (S' := sX11_rest) (by assumption) (ih ..) (fun _ h => h)
      | exact zPr.tail (S' := sX11_rest) (by assumption) (mX11_rest_119 ..) (fun _ h => h)
      | exact zPr.tail (S' := sX11_rest) (by assumption) (mX11_rest_108 _ _ (by first | assumption | exact ih | (intros; apply ih) | (intros; apply mX11_rest_54)) (by first | assumption | exact ih | (intros; apply ih) | (intros; apply mX11_rest_74)) ..) (fun _ h => h)
      | exact zPr.tail (S' := sX11_rest) (by assumption) (mX11_rest_103 _ _ (by first | assumption | exact ih | (intros; apply ih) | (intros; apply mX11_rest_54)) (by first | assumption | exact ih | (intros; apply ih) | (intros; apply mX11_rest_74)) ..) (fun _ h => h)
      | exact zPr.tail (S' := sX11_rest) (by assumption) (mX11_rest_74 _ (by first | assumption | exact ih | (intros; apply ih) | (intros; apply mX11_rest_54)) ..) (fun _ h => h)
      | exact zPr.tail (S' := sX11_rest) (by assumption) (mX11_rest_54 ..) (fun _ h => h)
theorem mX11_rest_23 (x1 : Int32) (x2 : Int32) (σ : zS) : zPr (sX11_rest σ.2.2) σ Prod.snd (fX11_rest_23 x1 x2 σ) := by
  unfold fX11_rest_23
  have hc := zSm.rfl (sX11_rest σ.2.2) σ
  repeat' first
    | exact zPr.none
    | exact zPr.some (by assumption)
    | refine zPr.ite ?_ ?_
    | refine zPr.wI (by assumption) (by simp only [sX11_rest, List.mem_cons, List.not_mem_nil, or_false]; omega) (fun _ _ => ?_)
    | refine zPr.wL (by assumption) (by simp only [sX11_rest, List.mem_cons, List.not_mem_nil, or_false]; omega) (fun _ _ => ?_)
    | refine zPr.bI (by assumption) (by simp only [sX11_rest, List.mem_cons, List.not_mem_nil, or_false]; omega) (fun _ _ => ?_)
    | refine zPr.bL (by assumption) (by simp only [sX11_rest, List.mem_cons, List.not_mem_nil, or_false]; omega) (fun _ _ => ?_)
    | refine zPr.wC (by assumption) (by simp only [sX11_rest, List.mem_cons, List.not_mem_nil, or_false]; omega) (fun _ _ => ?_)
    | refine zPr.aI (fun _ => ?_)
    | refine zPr.aL (fun _ => ?_)
    | refine zPr.gd ?_
    | refine zPr.bc (S' := sX11_takes) (by assumption) (mX11_takes ..) (fun p hp => by simp only [sX11_takes, sX11_rest, List.mem_cons, List.not_mem_nil, or_false] at hp ⊢ <;> omega) (fun _ _ _ => ?_)
    | refine zPr.bnr (fun _ => ?_)
    | refine zPr.bnv (fun _ => ?_)
    | exact zPr.tail (S' := sX11_rest) (by assumption) (mX11_rest_119 ..) (fun _ h => h)
    | exact zPr.tail (S' := sX11_rest) (by assumption) (mX11_rest_108 _ _ (by first | assumption | exact ih | (intros; apply ih) | (intros; apply mX11_rest_54)) (by first | assumption | exact ih | (intros; apply ih) | (intros; apply mX11_rest_74)) ..) (fun _ h => h)
    | exact zPr.tail (S' := sX11_rest) (by assumption) (mX11_rest_103 _ _ (by first | assumption | exact ih | (intros; apply ih) | (intros; apply mX11_rest_54)) (by first | assumption | exact ih | (intros; apply ih) | (intros; apply mX11_rest_74)) ..) (fun _ h => h)
    | exact zPr.tail (S' := sX11_rest) (by assumption) (mX11_rest_74 _ (by first | assumption | exact ih | (intros; apply ih) | (intros; apply mX11_rest_54)) ..) (fun _ h => h)
    | exact zPr.tail (S' := sX11_rest) (by assumption) (mX11_rest_54 ..) (fun _ h => h)
    | exact zPr.tail (S' := sX11_rest) (by assumption) (mX11_rest_25 ..) (fun _ h => h)
theorem mX11_rest (p1 : Int32) (p2 : Int32) (σ : zS) : zPr (sX11_rest σ.2.2) σ Prod.snd (fX11_rest p1 p2 σ) := by
  unfold fX11_rest
  have hc := zSm.rfl (sX11_rest σ.2.2) σ
  repeat' first
    | exact zPr.none
    | exact zPr.some (by assumption)
    | refine zPr.ite ?_ ?_
    | refine zPr.wI (by assumption) (by simp only [sX11_rest, List.mem_cons, List.not_mem_nil, or_false]; omega) (fun _ _ => ?_)
    | refine zPr.wL (by assumption) (by simp only [sX11_rest, List.mem_cons, List.not_mem_nil, or_false]; omega) (fun _ _ => ?_)
    | refine zPr.bI (by assumption) (by simp only [sX11_rest, List.mem_cons, List.not_mem_nil, or_false]; omega) (fun _ _ => ?_)
    | refine zPr.bL (by assumption) (by simp only [sX11_rest, List.mem_cons, List.not_mem_nil, or_false]; omega) (fun _ _ => ?_)
    | refine zPr.wC (by assumption) (by simp only [sX11_rest, List.mem_cons, List.not_mem_nil, or_false]; omega) (fun _ _ => ?_)
    | refine zPr.aI (fun _ => ?_)
    | refine zPr.aL (fun _ => ?_)
    | refine zPr.gd ?_
    | refine zPr.bc (S' := sX11_takes) (by assumption) (mX11_takes ..) (fun p hp => by simp only [sX11_takes, sX11_rest, List.mem_cons, List.not_mem_nil, or_false] at hp ⊢ <;> omega) (fun _ _ _ => ?_)
    | refine zPr.bnr (fun _ => ?_)
    | refine zPr.bnv (fun _ => ?_)
    | exact zPr.tail (S' := sX11_rest) (by assumption) (mX11_rest_119 ..) (fun _ h => h)
    | exact zPr.tail (S' := sX11_rest) (by assumption) (mX11_rest_108 _ _ (by first | assumption | exact ih | (intros; apply ih) | (intros; apply mX11_rest_54)) (by first | assumption | exact ih | (intros; apply ih) | (intros; apply mX11_rest_74)) ..) (fun _ h => h)
    | exact zPr.tail (S' := sX11_rest) (by assumption) (mX11_rest_103 _ _ (by first | assumption | exact ih | (intros; apply ih) | (intros; apply mX11_rest_54)) (by first | assumption | exact ih | (intros; apply ih) | (intros; apply mX11_rest_74)) ..) (fun _ h => h)
    | exact zPr.tail (S' := sX11_rest) (by assumption) (mX11_rest_74 _ (by first | assumption | exact ih | (intros; apply ih) | (intros; apply mX11_rest_54)) ..) (fun _ h => h)
    | exact zPr.tail (S' := sX11_rest) (by assumption) (mX11_rest_54 ..) (fun _ h => h)
    | exact zPr.tail (S' := sX11_rest) (by assumption) (mX11_rest_25 ..) (fun _ h => h)
    | exact zPr.tail (S' := sX11_rest) (by assumption) (mX11_rest_23 ..) (fun _ h => h)
def sX11_hidden (t : Bool × Bool × Bool) : List Nat := [56, 95]
theorem mX11_hidden_35 : ∀ (fuel : Nat) (x1 : Int32) (x2 : Int32) (x3 : Int32) (x4 : Int64) (x6 : Int32) (σ : zS), zPr (sX11_hidden σ.2.2) σ Prod.snd (fX11_hidden_35 fuel x1 x2 x3 x4 x6 σ) := by
  intro fuel
  induction fuel with
  | zero => intro x1 x2 x3 x4 x6 σ; exact zPr.none
  | succ f ih =>
    intro x1 x2 x3 x4 x6 σ
    rw [fX11_hidden_35]
    have hc := zSm.rfl (sX11_hidden σ.2.2) σ
    repeat' first
      | exact zPr.none
      | exact zPr.some (by assumption)
      | refine zPr.ite ?_ ?_
      | refine zPr.wI (by assumption) (by simp only [sX11_hidden, List.mem_cons, List.not_mem_nil, or_false]; omega) (fun _ _ => ?_)
      | refine zPr.wL (by assumption) (by simp only [sX11_hidden, List.mem_cons, List.not_mem_nil, or_false]; omega) (fun _ _ => ?_)
      | refine zPr.bI (by assumption) (by simp only [sX11_hidden, List.mem_cons, List.not_mem_nil, or_false]; omega) (fun _ _ => ?_)
      | refine zPr.bL (by assumption) (by simp only [sX11_hidden, List.mem_cons, List.not_mem_nil, or_false]; omega) (fun _ _ => ?_)
      | refine zPr.wC (by assumption) (by simp only [sX11_hidden, List.mem_cons, List.not_mem_nil, or_false]; omega) (fun _ _ => ?_)
      | refine zPr.aI (fun _ => ?_)
      | refine zPr.aL (fun _ => ?_)
      | refine zPr.gd ?_
      | refine zPr.bw (S' := sX11_findsAlone) (by assumption) (mX11_findsAlone ..) (fun p hp => by simp only [sX11_findsAlone, sX11_hidden, List.mem_cons, List.not_mem_nil, or_false] at hp ⊢ <;> omega) (fun _ _ => ?_)
      | refine zPr.bc (S' := sX11_worthAlone) (by assumption) (mX11_worthAlone ..) (fun p hp => by simp only [sX11_worthAlone, sX11_hidden, List.mem_cons, List.not_mem_nil, or_false] at hp ⊢ <;> omega) (fun _ _ _ => ?_)
      | refine zPr.bnr (fun _ => ?_)
      | refine zPr.bnv (fun _ => ?_)
      | exact zPr.tail (S' := sX11_hidden) (by assumption) (ih ..) (fun _ h => h)
theorem mX11_hidden (p1 : Int32) (p2 : Int32) (p3 : Int32) (σ : zS) : zPr (sX11_hidden σ.2.2) σ Prod.snd (fX11_hidden p1 p2 p3 σ) := by
  unfold fX11_hidden
  have hc := zSm.rfl (sX11_hidden σ.2.2) σ
  repeat' first
    | exact zPr.none
    | exact zPr.some (by assumption)
    | refine zPr.ite ?_ ?_
    | refine zPr.wI (by assumption) (by simp only [sX11_hidden, List.mem_cons, List.not_mem_nil, or_false]; omega) (fun _ _ => ?_)
    | refine zPr.wL (by assumption) (by simp only [sX11_hidden, List.mem_cons, List.not_mem_nil, or_false]; omega) (fun _ _ => ?_)
    | refine zPr.bI (by assumption) (by simp only [sX11_hidden, List.mem_cons, List.not_mem_nil, or_false]; omega) (fun _ _ => ?_)
    | refine zPr.bL (by assumption) (by simp only [sX11_hidden, List.mem_cons, List.not_mem_nil, or_false]; omega) (fun _ _ => ?_)
    | refine zPr.wC (by assumption) (by simp only [sX11_hidden, List.mem_cons, List.not_mem_nil, or_false]; omega) (fun _ _ => ?_)
    | refine zPr.aI (fun _ => ?_)
    | refine zPr.aL (fun _ => ?_)
    | refine zPr.gd ?_
    | refine zPr.bw (S' := sX11_findsAlone) (by assumption) (mX11_findsAlone ..) (fun p hp => by simp only [sX11_findsAlone, sX11_hidden, List.mem_cons, List.not_mem_nil, or_false] at hp ⊢ <;> omega) (fun _ _ => ?_)
    | refine zPr.bc (S' := sX11_worthAlone) (by assumption) (mX11_worthAlone ..) (fun p hp => by simp only [sX11_worthAlone, sX11_hidden, List.mem_cons, List.not_mem_nil, or_false] at hp ⊢ <;> omega) (fun _ _ _ => ?_)
    | refine zPr.bnr (fun _ => ?_)
    | refine zPr.bnv (fun _ => ?_)
    | exact zPr.tail (S' := sX11_hidden) (by assumption) (mX11_hidden_35 ..) (fun _ h => h)
def sX11_whom (t : Bool × Bool × Bool) : List Nat := [56, 95, 96]
theorem mX11_whom_161 (r38 : Int32 → Int32 → Int32 → Int32 → Int64 → Int32 → zS → Option (Int32 × zS)) (hr38 : ∀ (x0 : Int32) (x1 : Int32) (x2 : Int32) (x3 : Int32) (x4 : Int64) (x5 : Int32) (σ : zS), zPr (sX11_whom σ.2.2) σ Prod.snd (r38 x0 x1 x2 x3 x4 x5 σ)) (x1 : Int32) (x2 : Int32) (x3 : Int32) (x4 : Int32) (x5 : Int64) (x7 : Int32) (σ : zS) : zPr (sX11_whom σ.2.2) σ Prod.snd (fX11_whom_161 r38 x1 x2 x3 x4 x5 x7 σ) := by
  unfold fX11_whom_161
  have hc := zSm.rfl (sX11_whom σ.2.2) σ
  repeat' first
    | exact zPr.none
    | exact zPr.some (by assumption)
    | refine zPr.ite ?_ ?_
    | refine zPr.wI (by assumption) (by simp only [sX11_whom, List.mem_cons, List.not_mem_nil, or_false]; omega) (fun _ _ => ?_)
    | refine zPr.wL (by assumption) (by simp only [sX11_whom, List.mem_cons, List.not_mem_nil, or_false]; omega) (fun _ _ => ?_)
    | refine zPr.bI (by assumption) (by simp only [sX11_whom, List.mem_cons, List.not_mem_nil, or_false]; omega) (fun _ _ => ?_)
    | refine zPr.bL (by assumption) (by simp only [sX11_whom, List.mem_cons, List.not_mem_nil, or_false]; omega) (fun _ _ => ?_)
    | refine zPr.wC (by assumption) (by simp only [sX11_whom, List.mem_cons, List.not_mem_nil, or_false]; omega) (fun _ _ => ?_)
    | refine zPr.aI (fun _ => ?_)
    | refine zPr.aL (fun _ => ?_)
    | refine zPr.gd ?_
    | refine zPr.bw (S' := sX11_allHold) (by assumption) (mX11_allHold ..) (fun p hp => by simp only [sX11_allHold, sX11_whom, List.mem_cons, List.not_mem_nil, or_false] at hp ⊢ <;> omega) (fun _ _ => ?_)
    | refine zPr.bc (S' := sX11_worthRow) (by assumption) (mX11_worthRow ..) (fun p hp => by simp only [sX11_worthRow, sX11_whom, List.mem_cons, List.not_mem_nil, or_false] at hp ⊢ <;> omega) (fun _ _ _ => ?_)
    | refine zPr.bnr (fun _ => ?_)
    | refine zPr.bnv (fun _ => ?_)
    | exact zPr.tail (S' := sX11_whom) (by assumption) (hr38 ..) (fun _ h => h)
theorem mX11_whom_153 (r38 : Int32 → Int32 → Int32 → Int32 → Int64 → Int32 → zS → Option (Int32 × zS)) (hr38 : ∀ (x0 : Int32) (x1 : Int32) (x2 : Int32) (x3 : Int32) (x4 : Int64) (x5 : Int32) (σ : zS), zPr (sX11_whom σ.2.2) σ Prod.snd (r38 x0 x1 x2 x3 x4 x5 σ)) (x1 : Int32) (x2 : Int32) (x3 : Int32) (x7 : Int32) (x8 : Int64) (σ : zS) : zPr (sX11_whom σ.2.2) σ Prod.snd (fX11_whom_153 r38 x1 x2 x3 x7 x8 σ) := by
  unfold fX11_whom_153
  have hc := zSm.rfl (sX11_whom σ.2.2) σ
  repeat' first
    | exact zPr.none
    | exact zPr.some (by assumption)
    | refine zPr.ite ?_ ?_
    | refine zPr.wI (by assumption) (by simp only [sX11_whom, List.mem_cons, List.not_mem_nil, or_false]; omega) (fun _ _ => ?_)
    | refine zPr.wL (by assumption) (by simp only [sX11_whom, List.mem_cons, List.not_mem_nil, or_false]; omega) (fun _ _ => ?_)
    | refine zPr.bI (by assumption) (by simp only [sX11_whom, List.mem_cons, List.not_mem_nil, or_false]; omega) (fun _ _ => ?_)
    | refine zPr.bL (by assumption) (by simp only [sX11_whom, List.mem_cons, List.not_mem_nil, or_false]; omega) (fun _ _ => ?_)
    | refine zPr.wC (by assumption) (by simp only [sX11_whom, List.mem_cons, List.not_mem_nil, or_false]; omega) (fun _ _ => ?_)
    | refine zPr.aI (fun _ => ?_)
    | refine zPr.aL (fun _ => ?_)
    | refine zPr.gd ?_
    | refine zPr.bw (S' := sX11_allHold) (by assumption) (mX11_allHold ..) (fun p hp => by simp only [sX11_allHold, sX11_whom, List.mem_cons, List.not_mem_nil, or_false] at hp ⊢ <;> omega) (fun _ _ => ?_)
    | refine zPr.bc (S' := sX11_worthRow) (by assumption) (mX11_worthRow ..) (fun p hp => by simp only [sX11_worthRow, sX11_whom, List.mem_cons, List.not_mem_nil, or_false] at hp ⊢ <;> omega) (fun _ _ _ => ?_)
    | refine zPr.bnr (fun _ => ?_)
    | refine zPr.bnv (fun _ => ?_)
    | exact zPr.tail (S' := sX11_whom) (by assumption) (hr38 ..) (fun _ h => h)
    | exact zPr.tail (S' := sX11_whom) (by assumption) (mX11_whom_161 _ (by first | assumption | exact ih | (intros; apply ih) | (intros; apply mX11_whom_38)) ..) (fun _ h => h)
theorem mX11_whom_103 (r38 : Int32 → Int32 → Int32 → Int32 → Int64 → Int32 → zS → Option (Int32 × zS)) (r67 : Int32 → Int32 → Int32 → Int32 → Int64 → Int32 → Int64 → Int32 → zS → Option (Int32 × zS)) (hr38 : ∀ (x0 : Int32) (x1 : Int32) (x2 : Int32) (x3 : Int32) (x4 : Int64) (x5 : Int32) (σ : zS), zPr (sX11_whom σ.2.2) σ Prod.snd (r38 x0 x1 x2 x3 x4 x5 σ)) (hr67 : ∀ (x0 : Int32) (x1 : Int32) (x2 : Int32) (x3 : Int32) (x4 : Int64) (x5 : Int32) (x6 : Int64) (x7 : Int32) (σ : zS), zPr (sX11_whom σ.2.2) σ Prod.snd (r67 x0 x1 x2 x3 x4 x5 x6 x7 σ)) (x1 : Int32) (x2 : Int32) (x3 : Int32) (x4 : Int32) (x5 : Int64) (x7 : Int32) (x8 : Int64) (x10 : Int32) (σ : zS) : zPr (sX11_whom σ.2.2) σ Prod.snd (fX11_whom_103 r38 r67 x1 x2 x3 x4 x5 x7 x8 x10 σ) := by
  unfold fX11_whom_103
  have hc := zSm.rfl (sX11_whom σ.2.2) σ
  repeat' first
    | exact zPr.none
    | exact zPr.some (by assumption)
    | refine zPr.ite ?_ ?_
    | refine zPr.wI (by assumption) (by simp only [sX11_whom, List.mem_cons, List.not_mem_nil, or_false]; omega) (fun _ _ => ?_)
    | refine zPr.wL (by assumption) (by simp only [sX11_whom, List.mem_cons, List.not_mem_nil, or_false]; omega) (fun _ _ => ?_)
    | refine zPr.bI (by assumption) (by simp only [sX11_whom, List.mem_cons, List.not_mem_nil, or_false]; omega) (fun _ _ => ?_)
    | refine zPr.bL (by assumption) (by simp only [sX11_whom, List.mem_cons, List.not_mem_nil, or_false]; omega) (fun _ _ => ?_)
    | refine zPr.wC (by assumption) (by simp only [sX11_whom, List.mem_cons, List.not_mem_nil, or_false]; omega) (fun _ _ => ?_)
    | refine zPr.aI (fun _ => ?_)
    | refine zPr.aL (fun _ => ?_)
    | refine zPr.gd ?_
    | refine zPr.bw (S' := sX11_allHold) (by assumption) (mX11_allHold ..) (fun p hp => by simp only [sX11_allHold, sX11_whom, List.mem_cons, List.not_mem_nil, or_false] at hp ⊢ <;> omega) (fun _ _ => ?_)
    | refine zPr.bc (S' := sX11_worthRow) (by assumption) (mX11_worthRow ..) (fun p hp => by simp only [sX11_worthRow, sX11_whom, List.mem_cons, List.not_mem_nil, or_false] at hp ⊢ <;> omega) (fun _ _ _ => ?_)
    | refine zPr.bnr (fun _ => ?_)
    | refine zPr.bnv (fun _ => ?_)
    | exact zPr.tail (S' := sX11_whom) (by assumption) (hr38 ..) (fun _ h => h)
    | exact zPr.tail (S' := sX11_whom) (by assumption) (hr67 ..) (fun _ h => h)
    | exact zPr.tail (S' := sX11_whom) (by assumption) (mX11_whom_161 _ (by first | assumption | exact ih | (intros; apply ih) | (intros; apply mX11_whom_38)) ..) (fun _ h => h)
    | exact zPr.tail (S' := sX11_whom) (by assumption) (mX11_whom_153 _ (by first | assumption | exact ih | (intros; apply ih) | (intros; apply mX11_whom_38)) ..) (fun _ h => h)
theorem mX11_whom_67 (r38 : Int32 → Int32 → Int32 → Int32 → Int64 → Int32 → zS → Option (Int32 × zS)) (hr38 : ∀ (x0 : Int32) (x1 : Int32) (x2 : Int32) (x3 : Int32) (x4 : Int64) (x5 : Int32) (σ : zS), zPr (sX11_whom σ.2.2) σ Prod.snd (r38 x0 x1 x2 x3 x4 x5 σ)) : ∀ (fuel : Nat) (x1 : Int32) (x2 : Int32) (x3 : Int32) (x4 : Int32) (x5 : Int64) (x7 : Int32) (x8 : Int64) (x10 : Int32) (σ : zS), zPr (sX11_whom σ.2.2) σ Prod.snd (fX11_whom_67 r38 fuel x1 x2 x3 x4 x5 x7 x8 x10 σ) := by
  intro fuel
  induction fuel with
  | zero => intro x1 x2 x3 x4 x5 x7 x8 x10 σ; exact zPr.none
  | succ f ih =>
    intro x1 x2 x3 x4 x5 x7 x8 x10 σ
    rw [fX11_whom_67]
    have hc := zSm.rfl (sX11_whom σ.2.2) σ
    repeat' first
      | exact zPr.none
      | exact zPr.some (by assumption)
      | refine zPr.ite ?_ ?_
      | refine zPr.wI (by assumption) (by simp only [sX11_whom, List.mem_cons, List.not_mem_nil, or_false]; omega) (fun _ _ => ?_)
      | refine zPr.wL (by assumption) (by simp only [sX11_whom, List.mem_cons, List.not_mem_nil, or_false]; omega) (fun _ _ => ?_)
      | refine zPr.bI (by assumption) (by simp only [sX11_whom, List.mem_cons, List.not_mem_nil, or_false]; omega) (fun _ _ => ?_)
      | refine zPr.bL (by assumption) (by simp only [sX11_whom, List.mem_cons, List.not_mem_nil, or_false]; omega) (fun _ _ => ?_)
      | refine zPr.wC (by assumption) (by simp only [sX11_whom, List.mem_cons, List.not_mem_nil, or_false]; omega) (fun _ _ => ?_)
      | refine zPr.aI (fun _ => ?_)
      | refine zPr.aL (fun _ => ?_)
      | refine zPr.gd ?_
      | refine zPr.bw (S' := sX11_allHold) (by assumption) (mX11_allHold ..) (fun p hp => by simp only [sX11_allHold, sX11_whom, List.mem_cons, List.not_mem_nil, or_false] at hp ⊢ <;> omega) (fun _ _ => ?_)
      | refine zPr.bc (S' := sX11_worthRow) (by assumption) (mX11_worthRow ..) (fun p hp => by simp only [sX11_worthRow, sX11_whom, List.mem_cons, List.not_mem_nil, or_false] at hp ⊢ <;> omega) (fun _ _ _ => ?_)
      | refine zPr.bnr (fun _ => ?_)
      | refine zPr.bnv (fun _ => ?_)
      | exact zPr.tail (S' := sX11_whom) (by assumption) (ih ..) (fun _ h => h)
      | exact zPr.tail (S' := sX11_whom) (by assumption) (hr38 ..) (fun _ h => h)
      | exact zPr.tail (S' := sX11_whom) (by assumption) (mX11_whom_161 _ (by first | assumption | exact ih | (intros; apply ih) | (intros; apply mX11_whom_38)) ..) (fun _ h => h)
      | exact zPr.tail (S' := sX11_whom) (by assumption) (mX11_whom_153 _ (by first | assumption | exact ih | (intros; apply ih) | (intros; apply mX11_whom_38)) ..) (fun _ h => h)
      | exact zPr.tail (S' := sX11_whom) (by assumption) (mX11_whom_103 _ _ (by first | assumption | exact ih | (intros; apply ih) | (intros; apply mX11_whom_38)) (by first | assumption | exact ih | (intros; apply ih) | (intros; apply mX11_whom_67)) ..) (fun _ h => h)
theorem mX11_whom_38 : ∀ (fuel : Nat) (x1 : Int32) (x2 : Int32) (x3 : Int32) (x4 : Int32) (x5 : Int64) (x7 : Int32) (σ : zS), zPr (sX11_whom σ.2.2) σ Prod.snd (fX11_whom_38 fuel x1 x2 x3 x4 x5 x7 σ) := by
  intro fuel
  induction fuel with
  | zero => intro x1 x2 x3 x4 x5 x7 σ; exact zPr.none
  | succ f ih =>
    intro x1 x2 x3 x4 x5 x7 σ
    rw [fX11_whom_38]
    have hc := zSm.rfl (sX11_whom σ.2.2) σ
    repeat' first
      | exact zPr.none
      | exact zPr.some (by assumption)
      | refine zPr.ite ?_ ?_
      | refine zPr.wI (by assumption) (by simp only [sX11_whom, List.mem_cons, List.not_mem_nil, or_false]; omega) (fun _ _ => ?_)
      | refine zPr.wL (by assumption) (by simp only [sX11_whom, List.mem_cons, List.not_mem_nil, or_false]; omega) (fun _ _ => ?_)
      | refine zPr.bI (by assumption) (by simp only [sX11_whom, List.mem_cons, List.not_mem_nil, or_false]; omega) (fun _ _ => ?_)
      | refine zPr.bL (by assumption) (by simp only [sX11_whom, List.mem_cons, List.not_mem_nil, or_false]; omega) (fun _ _ => ?_)
      | refine zPr.wC (by assumption) (by simp only [sX11_whom, List.mem_cons, List.not_mem_nil, or_false]; omega) (fun _ _ => ?_)
      | refine zPr.aI (fun _ => ?_)
      | refine zPr.aL (fun _ => ?_)
      | refine zPr.gd ?_
      | refine zPr.bw (S' := sX11_allHold) (by assumption) (mX11_allHold ..) (fun p hp => by simp only [sX11_allHold, sX11_whom, List.mem_cons, List.not_mem_nil, or_false] at hp ⊢ <;> omega) (fun _ _ => ?_)
      | refine zPr.bc (S' := sX11_worthRow) (by assumption) (mX11_worthRow ..) (fun p hp => by simp only [sX11_worthRow, sX11_whom, List.mem_cons, List.not_mem_nil, or_false] at hp ⊢ <;> omega) (fun _ _ _ => ?_)
      | refine zPr.bnr (fun _ => ?_)
      | refine zPr.bnv (fun _ => ?_)
      | exact zPr.tail (S' := sX11_whom) (by assumption) (ih ..) (fun _ h => h)
      | exact zPr.tail (S' := sX11_whom) (by assumption) (mX11_whom_161 _ (by first | assumption | exact ih | (intros; apply ih) | (intros; apply mX11_whom_38)) ..) (fun _ h => h)
      | exact zPr.tail (S' := sX11_whom) (by assumption) (mX11_whom_153 _ (by first | assumption | exact ih | (intros; apply ih) | (intros; apply mX11_whom_38)) ..) (fun _ h => h)
      | exact zPr.tail (S' := sX11_whom) (by assumption) (mX11_whom_103 _ _ (by first | assumption | exact ih | (intros; apply ih) | (intros; apply mX11_whom_38)) (by first | assumption | exact ih | (intros; apply ih) | (intros; apply mX11_whom_67)) ..) (fun _ h => h)
      | exact zPr.tail (S' := sX11_whom) (by assumption) (mX11_whom_67 _ (by first | assumption | exact ih | (intros; apply ih) | (intros; apply mX11_whom_38)) ..) (fun _ h => h)
theorem mX11_whom (p1 : Int32) (p2 : Int32) (p3 : Int32) (σ : zS) : zPr (sX11_whom σ.2.2) σ Prod.snd (fX11_whom p1 p2 p3 σ) := by
  unfold fX11_whom
  have hc := zSm.rfl (sX11_whom σ.2.2) σ
  repeat' first
    | exact zPr.none
    | exact zPr.some (by assumption)
    | refine zPr.ite ?_ ?_
    | refine zPr.wI (by assumption) (by simp only [sX11_whom, List.mem_cons, List.not_mem_nil, or_false]; omega) (fun _ _ => ?_)
    | refine zPr.wL (by assumption) (by simp only [sX11_whom, List.mem_cons, List.not_mem_nil, or_false]; omega) (fun _ _ => ?_)
    | refine zPr.bI (by assumption) (by simp only [sX11_whom, List.mem_cons, List.not_mem_nil, or_false]; omega) (fun _ _ => ?_)
    | refine zPr.bL (by assumption) (by simp only [sX11_whom, List.mem_cons, List.not_mem_nil, or_false]; omega) (fun _ _ => ?_)
    | refine zPr.wC (by assumption) (by simp only [sX11_whom, List.mem_cons, List.not_mem_nil, or_false]; omega) (fun _ _ => ?_)
    | refine zPr.aI (fun _ => ?_)
    | refine zPr.aL (fun _ => ?_)
    | refine zPr.gd ?_
    | refine zPr.bw (S' := sX11_allHold) (by assumption) (mX11_allHold ..) (fun p hp => by simp only [sX11_allHold, sX11_whom, List.mem_cons, List.not_mem_nil, or_false] at hp ⊢ <;> omega) (fun _ _ => ?_)
    | refine zPr.bc (S' := sX11_worthRow) (by assumption) (mX11_worthRow ..) (fun p hp => by simp only [sX11_worthRow, sX11_whom, List.mem_cons, List.not_mem_nil, or_false] at hp ⊢ <;> omega) (fun _ _ _ => ?_)
    | refine zPr.bnr (fun _ => ?_)
    | refine zPr.bnv (fun _ => ?_)
    | exact zPr.tail (S' := sX11_whom) (by assumption) (mX11_whom_161 _ (by first | assumption | exact ih | (intros; apply ih) | (intros; apply mX11_whom_38)) ..) (fun _ h => h)
    | exact zPr.tail (S' := sX11_whom) (by assumption) (mX11_whom_153 _ (by first | assumption | exact ih | (intros; apply ih) | (intros; apply mX11_whom_38)) ..) (fun _ h => h)
    | exact zPr.tail (S' := sX11_whom) (by assumption) (mX11_whom_103 _ _ (by first | assumption | exact ih | (intros; apply ih) | (intros; apply mX11_whom_38)) (by first | assumption | exact ih | (intros; apply ih) | (intros; apply mX11_whom_67)) ..) (fun _ h => h)
    | exact zPr.tail (S' := sX11_whom) (by assumption) (mX11_whom_67 _ (by first | assumption | exact ih | (intros; apply ih) | (intros; apply mX11_whom_38)) ..) (fun _ h => h)
    | exact zPr.tail (S' := sX11_whom) (by assumption) (mX11_whom_38 ..) (fun _ h => h)
def sX11_faces (t : Bool × Bool × Bool) : List Nat := [100, 56, 84, 99]
theorem mX11_faces_118 : ∀ (fuel : Nat) (x4 : Int32) (σ : zS), zPr (sX11_faces σ.2.2) σ Prod.snd (fX11_faces_118 fuel x4 σ) := by
  intro fuel
  induction fuel with
  | zero => intro x4 σ; exact zPr.none
  | succ f ih =>
    intro x4 σ
    rw [fX11_faces_118]
    have hc := zSm.rfl (sX11_faces σ.2.2) σ
    repeat' first
      | exact zPr.none
      | exact zPr.some (by assumption)
      | refine zPr.ite ?_ ?_
      | refine zPr.wI (by assumption) (by simp only [sX11_faces, List.mem_cons, List.not_mem_nil, or_false]; omega) (fun _ _ => ?_)
      | refine zPr.wL (by assumption) (by simp only [sX11_faces, List.mem_cons, List.not_mem_nil, or_false]; omega) (fun _ _ => ?_)
      | refine zPr.bI (by assumption) (by simp only [sX11_faces, List.mem_cons, List.not_mem_nil, or_false]; omega) (fun _ _ => ?_)
      | refine zPr.bL (by assumption) (by simp only [sX11_faces, List.mem_cons, List.not_mem_nil, or_false]; omega) (fun _ _ => ?_)
      | refine zPr.wC (by assumption) (by simp only [sX11_faces, List.mem_cons, List.not_mem_nil, or_false]; omega) (fun _ _ => ?_)
      | refine zPr.aI (fun _ => ?_)
      | refine zPr.aL (fun _ => ?_)
      | refine zPr.gd ?_
      | refine zPr.bc (S' := sX11_refuses) (by assumption) (mX11_refuses ..) (fun p hp => by simp only [sX11_refuses, sX11_faces, List.mem_cons, List.not_mem_nil, or_false] at hp ⊢ <;> omega) (fun _ _ _ => ?_)
      | refine zPr.bnr (fun _ => ?_)
      | refine zPr.bnv (fun _ => ?_)
      | exact zPr.tail (S' := sX11_faces) (by assumption) (ih ..) (fun _ h => h)
theorem mX11_faces_93 (x1 : Int32) (x2 : Int32) (x3 : Int32) (σ : zS) : zPr (sX11_faces σ.2.2) σ Prod.snd (fX11_faces_93 x1 x2 x3 σ) := by
  unfold fX11_faces_93
  have hc := zSm.rfl (sX11_faces σ.2.2) σ
  repeat' first
    | exact zPr.none
    | exact zPr.some (by assumption)
    | refine zPr.ite ?_ ?_
    | refine zPr.wI (by assumption) (by simp only [sX11_faces, List.mem_cons, List.not_mem_nil, or_false]; omega) (fun _ _ => ?_)
    | refine zPr.wL (by assumption) (by simp only [sX11_faces, List.mem_cons, List.not_mem_nil, or_false]; omega) (fun _ _ => ?_)
    | refine zPr.bI (by assumption) (by simp only [sX11_faces, List.mem_cons, List.not_mem_nil, or_false]; omega) (fun _ _ => ?_)
    | refine zPr.bL (by assumption) (by simp only [sX11_faces, List.mem_cons, List.not_mem_nil, or_false]; omega) (fun _ _ => ?_)
    | refine zPr.wC (by assumption) (by simp only [sX11_faces, List.mem_cons, List.not_mem_nil, or_false]; omega) (fun _ _ => ?_)
    | refine zPr.aI (fun _ => ?_)
    | refine zPr.aL (fun _ => ?_)
    | refine zPr.gd ?_
    | refine zPr.bc (S' := sX11_refuses) (by assumption) (mX11_refuses ..) (fun p hp => by simp only [sX11_refuses, sX11_faces, List.mem_cons, List.not_mem_nil, or_false] at hp ⊢ <;> omega) (fun _ _ _ => ?_)
    | refine zPr.bnr (fun _ => ?_)
    | refine zPr.bnv (fun _ => ?_)
    | exact zPr.tail (S' := sX11_faces) (by assumption) (mX11_faces_118 ..) (fun _ h => h)
theorem mX11_faces_86 (r43 : Int32 → Int32 → Int32 → Int32 → zS → Option (Int32 × zS)) (hr43 : ∀ (x0 : Int32) (x1 : Int32) (x2 : Int32) (x3 : Int32) (σ : zS), zPr (sX11_faces σ.2.2) σ Prod.snd (r43 x0 x1 x2 x3 σ)) (x1 : Int32) (x2 : Int32) (x4 : Int32) (s0 : Int32) (σ : zS) : zPr (sX11_faces σ.2.2) σ Prod.snd (fX11_faces_86 r43 x1 x2 x4 s0 σ) := by
  unfold fX11_faces_86
  have hc := zSm.rfl (sX11_faces σ.2.2) σ
  repeat' first
    | exact zPr.none
    | exact zPr.some (by assumption)
    | refine zPr.ite ?_ ?_
    | refine zPr.wI (by assumption) (by simp only [sX11_faces, List.mem_cons, List.not_mem_nil, or_false]; omega) (fun _ _ => ?_)
    | refine zPr.wL (by assumption) (by simp only [sX11_faces, List.mem_cons, List.not_mem_nil, or_false]; omega) (fun _ _ => ?_)
    | refine zPr.bI (by assumption) (by simp only [sX11_faces, List.mem_cons, List.not_mem_nil, or_false]; omega) (fun _ _ => ?_)
    | refine zPr.bL (by assumption) (by simp only [sX11_faces, List.mem_cons, List.not_mem_nil, or_false]; omega) (fun _ _ => ?_)
    | refine zPr.wC (by assumption) (by simp only [sX11_faces, List.mem_cons, List.not_mem_nil, or_false]; omega) (fun _ _ => ?_)
    | refine zPr.aI (fun _ => ?_)
    | refine zPr.aL (fun _ => ?_)
    | refine zPr.gd ?_
    | refine zPr.bc (S' := sX11_refuses) (by assumption) (mX11_refuses ..) (fun p hp => by simp only [sX11_refuses, sX11_faces, List.mem_cons, List.not_mem_nil, or_false] at hp ⊢ <;> omega) (fun _ _ _ => ?_)
    | refine zPr.bnr (fun _ => ?_)
    | refine zPr.bnv (fun _ => ?_)
    | exact zPr.tail (S' := sX11_faces) (by assumption) (hr43 ..) (fun _ h => h)
    | exact zPr.tail (S' := sX11_faces) (by assumption) (mX11_faces_118 ..) (fun _ h => h)
    | exact zPr.tail (S' := sX11_faces) (by assumption) (mX11_faces_93 ..) (fun _ h => h)
theorem mX11_faces_85 (r43 : Int32 → Int32 → Int32 → Int32 → zS → Option (Int32 × zS)) (hr43 : ∀ (x0 : Int32) (x1 : Int32) (x2 : Int32) (x3 : Int32) (σ : zS), zPr (sX11_faces σ.2.2) σ Prod.snd (r43 x0 x1 x2 x3 σ)) (x1 : Int32) (x2 : Int32) (x4 : Int32) (σ : zS) : zPr (sX11_faces σ.2.2) σ Prod.snd (fX11_faces_85 r43 x1 x2 x4 σ) := by
  unfold fX11_faces_85
  have hc := zSm.rfl (sX11_faces σ.2.2) σ
  repeat' first
    | exact zPr.none
    | exact zPr.some (by assumption)
    | refine zPr.ite ?_ ?_
    | refine zPr.wI (by assumption) (by simp only [sX11_faces, List.mem_cons, List.not_mem_nil, or_false]; omega) (fun _ _ => ?_)
    | refine zPr.wL (by assumption) (by simp only [sX11_faces, List.mem_cons, List.not_mem_nil, or_false]; omega) (fun _ _ => ?_)
    | refine zPr.bI (by assumption) (by simp only [sX11_faces, List.mem_cons, List.not_mem_nil, or_false]; omega) (fun _ _ => ?_)
    | refine zPr.bL (by assumption) (by simp only [sX11_faces, List.mem_cons, List.not_mem_nil, or_false]; omega) (fun _ _ => ?_)
    | refine zPr.wC (by assumption) (by simp only [sX11_faces, List.mem_cons, List.not_mem_nil, or_false]; omega) (fun _ _ => ?_)
    | refine zPr.aI (fun _ => ?_)
    | refine zPr.aL (fun _ => ?_)
    | refine zPr.gd ?_
    | refine zPr.bc (S' := sX11_refuses) (by assumption) (mX11_refuses ..) (fun p hp => by simp only [sX11_refuses, sX11_faces, List.mem_cons, List.not_mem_nil, or_false] at hp ⊢ <;> omega) (fun _ _ _ => ?_)
    | refine zPr.bnr (fun _ => ?_)
    | refine zPr.bnv (fun _ => ?_)
    | exact zPr.tail (S' := sX11_faces) (by assumption) (hr43 ..) (fun _ h => h)
    | exact zPr.tail (S' := sX11_faces) (by assumption) (mX11_faces_118 ..) (fun _ h => h)
    | exact zPr.tail (S' := sX11_faces) (by assumption) (mX11_faces_93 ..) (fun _ h => h)
    | exact zPr.tail (S' := sX11_faces) (by assumption) (mX11_faces_86 _ (by first | assumption | exact ih | (intros; apply ih) | (intros; apply mX11_faces_43)) ..) (fun _ h => h)
theorem mX11_faces_43 : ∀ (fuel : Nat) (x1 : Int32) (x2 : Int32) (x3 : Int32) (x4 : Int32) (σ : zS), zPr (sX11_faces σ.2.2) σ Prod.snd (fX11_faces_43 fuel x1 x2 x3 x4 σ) := by
  intro fuel
  induction fuel with
  | zero => intro x1 x2 x3 x4 σ; exact zPr.none
  | succ f ih =>
    intro x1 x2 x3 x4 σ
    rw [fX11_faces_43]
    have hc := zSm.rfl (sX11_faces σ.2.2) σ
    repeat' first
      | exact zPr.none
      | exact zPr.some (by assumption)
      | refine zPr.ite ?_ ?_
      | refine zPr.wI (by assumption) (by simp only [sX11_faces, List.mem_cons, List.not_mem_nil, or_false]; omega) (fun _ _ => ?_)
      | refine zPr.wL (by assumption) (by simp only [sX11_faces, List.mem_cons, List.not_mem_nil, or_false]; omega) (fun _ _ => ?_)
      | refine zPr.bI (by assumption) (by simp only [sX11_faces, List.mem_cons, List.not_mem_nil, or_false]; omega) (fun _ _ => ?_)
      | refine zPr.bL (by assumption) (by simp only [sX11_faces, List.mem_cons, List.not_mem_nil, or_false]; omega) (fun _ _ => ?_)
      | refine zPr.wC (by assumption) (by simp only [sX11_faces, List.mem_cons, List.not_mem_nil, or_false]; omega) (fun _ _ => ?_)
      | refine zPr.aI (fun _ => ?_)
      | refine zPr.aL (fun _ => ?_)
      | refine zPr.gd ?_
      | refine zPr.bc (S' := sX11_refuses) (by assumption) (mX11_refuses ..) (fun p hp => by simp only [sX11_refuses, sX11_faces, List.mem_cons, List.not_mem_nil, or_false] at hp ⊢ <;> omega) (fun _ _ _ => ?_)
      | refine zPr.bnr (fun _ => ?_)
      | refine zPr.bnv (fun _ => ?_)
      | exact zPr.tail (S' := sX11_faces) (by assumption) (ih ..) (fun _ h => h)
      | exact zPr.tail (S' := sX11_faces) (by assumption) (mX11_faces_118 ..) (fun _ h => h)
      | exact zPr.tail (S' := sX11_faces) (by assumption) (mX11_faces_93 ..) (fun _ h => h)
      | exact zPr.tail (S' := sX11_faces) (by assumption) (mX11_faces_86 _ (by first | assumption | exact ih | (intros; apply ih) | (intros; apply mX11_faces_43)) ..) (fun _ h => h)
      | exact zPr.tail (S' := sX11_faces) (by assumption) (mX11_faces_85 _ (by first | assumption | exact ih | (intros; apply ih) | (intros; apply mX11_faces_43)) ..) (fun _ h => h)
theorem mX11_faces_39 (x1 : Int32) (x2 : Int32) (s0 : Int32) (σ : zS) : zPr (sX11_faces σ.2.2) σ Prod.snd (fX11_faces_39 x1 x2 s0 σ) := by
  unfold fX11_faces_39
  have hc := zSm.rfl (sX11_faces σ.2.2) σ
  repeat' first
    | exact zPr.none
    | exact zPr.some (by assumption)
    | refine zPr.ite ?_ ?_
    | refine zPr.wI (by assumption) (by simp only [sX11_faces, List.mem_cons, List.not_mem_nil, or_false]; omega) (fun _ _ => ?_)
    | refine zPr.wL (by assumption) (by simp only [sX11_faces, List.mem_cons, List.not_mem_nil, or_false]; omega) (fun _ _ => ?_)
    | refine zPr.bI (by assumption) (by simp only [sX11_faces, List.mem_cons, List.not_mem_nil, or_false]; omega) (fun _ _ => ?_)
    | refine zPr.bL (by assumption) (by simp only [sX11_faces, List.mem_cons, List.not_mem_nil, or_false]; omega) (fun _ _ => ?_)
    | refine zPr.wC (by assumption) (by simp only [sX11_faces, List.mem_cons, List.not_mem_nil, or_false]; omega) (fun _ _ => ?_)
    | refine zPr.aI (fun _ => ?_)
    | refine zPr.aL (fun _ => ?_)
    | refine zPr.gd ?_
    | refine zPr.bc (S' := sX11_refuses) (by assumption) (mX11_refuses ..) (fun p hp => by simp only [sX11_refuses, sX11_faces, List.mem_cons, List.not_mem_nil, or_false] at hp ⊢ <;> omega) (fun _ _ _ => ?_)
    | refine zPr.bnr (fun _ => ?_)
    | refine zPr.bnv (fun _ => ?_)
    | exact zPr.tail (S' := sX11_faces) (by assumption) (mX11_faces_118 ..) (fun _ h => h)
    | exact zPr.tail (S' := sX11_faces) (by assumption) (mX11_faces_93 ..) (fun _ h => h)
    | exact zPr.tail (S' := sX11_faces) (by assumption) (mX11_faces_86 _ (by first | assumption | exact ih | (intros; apply ih) | (intros; apply mX11_faces_43)) ..) (fun _ h => h)
    | exact zPr.tail (S' := sX11_faces) (by assumption) (mX11_faces_85 _ (by first | assumption | exact ih | (intros; apply ih) | (intros; apply mX11_faces_43)) ..) (fun _ h => h)
    | exact zPr.tail (S' := sX11_faces) (by assumption) (mX11_faces_43 ..) (fun _ h => h)
theorem mX11_faces_38 (x1 : Int32) (x2 : Int32) (σ : zS) : zPr (sX11_faces σ.2.2) σ Prod.snd (fX11_faces_38 x1 x2 σ) := by
  unfold fX11_faces_38
  have hc := zSm.rfl (sX11_faces σ.2.2) σ
  repeat' first
    | exact zPr.none
    | exact zPr.some (by assumption)
    | refine zPr.ite ?_ ?_
    | refine zPr.wI (by assumption) (by simp only [sX11_faces, List.mem_cons, List.not_mem_nil, or_false]; omega) (fun _ _ => ?_)
    | refine zPr.wL (by assumption) (by simp only [sX11_faces, List.mem_cons, List.not_mem_nil, or_false]; omega) (fun _ _ => ?_)
    | refine zPr.bI (by assumption) (by simp only [sX11_faces, List.mem_cons, List.not_mem_nil, or_false]; omega) (fun _ _ => ?_)
    | refine zPr.bL (by assumption) (by simp only [sX11_faces, List.mem_cons, List.not_mem_nil, or_false]; omega) (fun _ _ => ?_)
    | refine zPr.wC (by assumption) (by simp only [sX11_faces, List.mem_cons, List.not_mem_nil, or_false]; omega) (fun _ _ => ?_)
    | refine zPr.aI (fun _ => ?_)
    | refine zPr.aL (fun _ => ?_)
    | refine zPr.gd ?_
    | refine zPr.bc (S' := sX11_refuses) (by assumption) (mX11_refuses ..) (fun p hp => by simp only [sX11_refuses, sX11_faces, List.mem_cons, List.not_mem_nil, or_false] at hp ⊢ <;> omega) (fun _ _ _ => ?_)
    | refine zPr.bnr (fun _ => ?_)
    | refine zPr.bnv (fun _ => ?_)
    | exact zPr.tail (S' := sX11_faces) (by assumption) (mX11_faces_118 ..) (fun _ h => h)
    | exact zPr.tail (S' := sX11_faces) (by assumption) (mX11_faces_93 ..) (fun _ h => h)
    | exact zPr.tail (S' := sX11_faces) (by assumption) (mX11_faces_86 _ (by first | assumption | exact ih | (intros; apply ih) | (intros; apply mX11_faces_43)) ..) (fun _ h => h)
    | exact zPr.tail (S' := sX11_faces) (by assumption) (mX11_faces_85 _ (by first | assumption | exact ih | (intros; apply ih) | (intros; apply mX11_faces_43)) ..) (fun _ h => h)
    | exact zPr.tail (S' := sX11_faces) (by assumption) (mX11_faces_43 ..) (fun _ h => h)
    | exact zPr.tail (S' := sX11_faces) (by assumption) (mX11_faces_39 ..) (fun _ h => h)
theorem mX11_faces (p1 : Int32) (σ : zS) : zPr (sX11_faces σ.2.2) σ Prod.snd (fX11_faces p1 σ) := by
  unfold fX11_faces
  have hc := zSm.rfl (sX11_faces σ.2.2) σ
  repeat' first
    | exact zPr.none
    | exact zPr.some (by assumption)
    | refine zPr.ite ?_ ?_
    | refine zPr.wI (by assumption) (by simp only [sX11_faces, List.mem_cons, List.not_mem_nil, or_false]; omega) (fun _ _ => ?_)
    | refine zPr.wL (by assumption) (by simp only [sX11_faces, List.mem_cons, List.not_mem_nil, or_false]; omega) (fun _ _ => ?_)
    | refine zPr.bI (by assumption) (by simp only [sX11_faces, List.mem_cons, List.not_mem_nil, or_false]; omega) (fun _ _ => ?_)
    | refine zPr.bL (by assumption) (by simp only [sX11_faces, List.mem_cons, List.not_mem_nil, or_false]; omega) (fun _ _ => ?_)
    | refine zPr.wC (by assumption) (by simp only [sX11_faces, List.mem_cons, List.not_mem_nil, or_false]; omega) (fun _ _ => ?_)
    | refine zPr.aI (fun _ => ?_)
    | refine zPr.aL (fun _ => ?_)
    | refine zPr.gd ?_
    | refine zPr.bc (S' := sX11_refuses) (by assumption) (mX11_refuses ..) (fun p hp => by simp only [sX11_refuses, sX11_faces, List.mem_cons, List.not_mem_nil, or_false] at hp ⊢ <;> omega) (fun _ _ _ => ?_)
    | refine zPr.bnr (fun _ => ?_)
    | refine zPr.bnv (fun _ => ?_)
    | exact zPr.tail (S' := sX11_faces) (by assumption) (mX11_faces_118 ..) (fun _ h => h)
    | exact zPr.tail (S' := sX11_faces) (by assumption) (mX11_faces_93 ..) (fun _ h => h)
    | exact zPr.tail (S' := sX11_faces) (by assumption) (mX11_faces_86 _ (by first | assumption | exact ih | (intros; apply ih) | (intros; apply mX11_faces_43)) ..) (fun _ h => h)
    | exact zPr.tail (S' := sX11_faces) (by assumption) (mX11_faces_85 _ (by first | assumption | exact ih | (intros; apply ih) | (intros; apply mX11_faces_43)) ..) (fun _ h => h)
    | exact zPr.tail (S' := sX11_faces) (by assumption) (mX11_faces_43 ..) (fun _ h => h)
    | exact zPr.tail (S' := sX11_faces) (by assumption) (mX11_faces_39 ..) (fun _ h => h)
    | exact zPr.tail (S' := sX11_faces) (by assumption) (mX11_faces_38 ..) (fun _ h => h)
def sX11_draw (t : Bool × Bool × Bool) : List Nat := [56]
theorem mX11_draw (p1 : Int32) (σ : zS) : zPr (sX11_draw σ.2.2) σ Prod.snd (fX11_draw p1 σ) := by
  unfold fX11_draw
  have hc := zSm.rfl (sX11_draw σ.2.2) σ
  repeat' first
    | exact zPr.none
    | exact zPr.some (by assumption)
    | refine zPr.ite ?_ ?_
    | refine zPr.wI (by assumption) (by simp only [sX11_draw, List.mem_cons, List.not_mem_nil, or_false]; omega) (fun _ _ => ?_)
    | refine zPr.wL (by assumption) (by simp only [sX11_draw, List.mem_cons, List.not_mem_nil, or_false]; omega) (fun _ _ => ?_)
    | refine zPr.bI (by assumption) (by simp only [sX11_draw, List.mem_cons, List.not_mem_nil, or_false]; omega) (fun _ _ => ?_)
    | refine zPr.bL (by assumption) (by simp only [sX11_draw, List.mem_cons, List.not_mem_nil, or_false]; omega) (fun _ _ => ?_)
    | refine zPr.wC (by assumption) (by simp only [sX11_draw, List.mem_cons, List.not_mem_nil, or_false]; omega) (fun _ _ => ?_)
    | refine zPr.aI (fun _ => ?_)
    | refine zPr.aL (fun _ => ?_)
    | refine zPr.gd ?_
    | refine zPr.bnr (fun _ => ?_)
    | refine zPr.bnv (fun _ => ?_)
def sX11_writesDown (t : Bool × Bool × Bool) : List Nat := [90, 91, 92, 93, 94]
theorem mX11_writesDown_101 (x1 : Int32) (x2 : Int32) (x3 : Int32) (σ : zS) : zPr (sX11_writesDown σ.2.2) σ id (fX11_writesDown_101 x1 x2 x3 σ) := by
  unfold fX11_writesDown_101
  have hc := zSm.rfl (sX11_writesDown σ.2.2) σ
  repeat' first
    | exact zPr.none
    | exact zPr.some (by assumption)
    | refine zPr.ite ?_ ?_
    | refine zPr.wI (by assumption) (by simp only [sX11_writesDown, List.mem_cons, List.not_mem_nil, or_false]; omega) (fun _ _ => ?_)
    | refine zPr.wL (by assumption) (by simp only [sX11_writesDown, List.mem_cons, List.not_mem_nil, or_false]; omega) (fun _ _ => ?_)
    | refine zPr.bI (by assumption) (by simp only [sX11_writesDown, List.mem_cons, List.not_mem_nil, or_false]; omega) (fun _ _ => ?_)
    | refine zPr.bL (by assumption) (by simp only [sX11_writesDown, List.mem_cons, List.not_mem_nil, or_false]; omega) (fun _ _ => ?_)
    | refine zPr.wC (by assumption) (by simp only [sX11_writesDown, List.mem_cons, List.not_mem_nil, or_false]; omega) (fun _ _ => ?_)
    | refine zPr.aI (fun _ => ?_)
    | refine zPr.aL (fun _ => ?_)
    | refine zPr.gd ?_
    | refine zPr.bnr (fun _ => ?_)
    | refine zPr.bnv (fun _ => ?_)
theorem mX11_writesDown_14 : ∀ (fuel : Nat) (x1 : Int32) (x2 : Int32) (x3 : Int32) (x4 : Int32) (σ : zS), zPr (sX11_writesDown σ.2.2) σ id (fX11_writesDown_14 fuel x1 x2 x3 x4 σ) := by
  intro fuel
  induction fuel with
  | zero => intro x1 x2 x3 x4 σ; exact zPr.none
  | succ f ih =>
    intro x1 x2 x3 x4 σ
    rw [fX11_writesDown_14]
    have hc := zSm.rfl (sX11_writesDown σ.2.2) σ
    repeat' first
      | exact zPr.none
      | exact zPr.some (by assumption)
      | refine zPr.ite ?_ ?_
      | refine zPr.wI (by assumption) (by simp only [sX11_writesDown, List.mem_cons, List.not_mem_nil, or_false]; omega) (fun _ _ => ?_)
      | refine zPr.wL (by assumption) (by simp only [sX11_writesDown, List.mem_cons, List.not_mem_nil, or_false]; omega) (fun _ _ => ?_)
      | refine zPr.bI (by assumption) (by simp only [sX11_writesDown, List.mem_cons, List.not_mem_nil, or_false]; omega) (fun _ _ => ?_)
      | refine zPr.bL (by assumption) (by simp only [sX11_writesDown, List.mem_cons, List.not_mem_nil, or_false]; omega) (fun _ _ => ?_)
      | refine zPr.wC (by assumption) (by simp only [sX11_writesDown, List.mem_cons, List.not_mem_nil, or_false]; omega) (fun _ _ => ?_)
      | refine zPr.aI (fun _ => ?_)
      | refine zPr.aL (fun _ => ?_)
      | refine zPr.gd ?_
      | refine zPr.bnr (fun _ => ?_)
      | refine zPr.bnv (fun _ => ?_)
      | exact zPr.tail (S' := sX11_writesDown) (by assumption) (ih ..) (fun _ h => h)
      | exact zPr.tail (S' := sX11_writesDown) (by assumption) (mX11_writesDown_101 ..) (fun _ h => h)
theorem mX11_writesDown (p1 : Int32) (p2 : Int32) (p3 : Int32) (σ : zS) : zPr (sX11_writesDown σ.2.2) σ id (fX11_writesDown p1 p2 p3 σ) := by
  unfold fX11_writesDown
  have hc := zSm.rfl (sX11_writesDown σ.2.2) σ
  repeat' first
    | exact zPr.none
    | exact zPr.some (by assumption)
    | refine zPr.ite ?_ ?_
    | refine zPr.wI (by assumption) (by simp only [sX11_writesDown, List.mem_cons, List.not_mem_nil, or_false]; omega) (fun _ _ => ?_)
    | refine zPr.wL (by assumption) (by simp only [sX11_writesDown, List.mem_cons, List.not_mem_nil, or_false]; omega) (fun _ _ => ?_)
    | refine zPr.bI (by assumption) (by simp only [sX11_writesDown, List.mem_cons, List.not_mem_nil, or_false]; omega) (fun _ _ => ?_)
    | refine zPr.bL (by assumption) (by simp only [sX11_writesDown, List.mem_cons, List.not_mem_nil, or_false]; omega) (fun _ _ => ?_)
    | refine zPr.wC (by assumption) (by simp only [sX11_writesDown, List.mem_cons, List.not_mem_nil, or_false]; omega) (fun _ _ => ?_)
    | refine zPr.aI (fun _ => ?_)
    | refine zPr.aL (fun _ => ?_)
    | refine zPr.gd ?_
    | refine zPr.bnr (fun _ => ?_)
    | refine zPr.bnv (fun _ => ?_)
    | exact zPr.tail (S' := sX11_writesDown) (by assumption) (mX11_writesDown_101 ..) (fun _ h => h)
    | exact zPr.tail (S' := sX11_writesDown) (by assumption) (mX11_writesDown_14 ..) (fun _ h => h)
def sX11_laughing (t : Bool × Bool × Bool) : List Nat := [56]
theorem mX11_laughing_24 : ∀ (fuel : Nat) (x2 : Int32) (x3 : Int32) (x4 : Int32) (σ : zS), zPr (sX11_laughing σ.2.2) σ Prod.snd (fX11_laughing_24 fuel x2 x3 x4 σ) := by
  intro fuel
  induction fuel with
  | zero => intro x2 x3 x4 σ; exact zPr.none
  | succ f ih =>
    intro x2 x3 x4 σ
    rw [fX11_laughing_24]
    have hc := zSm.rfl (sX11_laughing σ.2.2) σ
    repeat' first
      | exact zPr.none
      | exact zPr.some (by assumption)
      | refine zPr.ite ?_ ?_
      | refine zPr.wI (by assumption) (by simp only [sX11_laughing, List.mem_cons, List.not_mem_nil, or_false]; omega) (fun _ _ => ?_)
      | refine zPr.wL (by assumption) (by simp only [sX11_laughing, List.mem_cons, List.not_mem_nil, or_false]; omega) (fun _ _ => ?_)
      | refine zPr.bI (by assumption) (by simp only [sX11_laughing, List.mem_cons, List.not_mem_nil, or_false]; omega) (fun _ _ => ?_)
      | refine zPr.bL (by assumption) (by simp only [sX11_laughing, List.mem_cons, List.not_mem_nil, or_false]; omega) (fun _ _ => ?_)
      | refine zPr.wC (by assumption) (by simp only [sX11_laughing, List.mem_cons, List.not_mem_nil, or_false]; omega) (fun _ _ => ?_)
      | refine zPr.aI (fun _ => ?_)
      | refine zPr.aL (fun _ => ?_)
      | refine zPr.gd ?_
      | refine zPr.bc (S' := sX11_draw) (by assumption) (mX11_draw ..) (fun p hp => by simp only [sX11_draw, sX11_laughing, List.mem_cons, List.not_mem_nil, or_false] at hp ⊢ <;> omega) (fun _ _ _ => ?_)
      | refine zPr.bnr (fun _ => ?_)
      | refine zPr.bnv (fun _ => ?_)
      | exact zPr.tail (S' := sX11_laughing) (by assumption) (ih ..) (fun _ h => h)
theorem mX11_laughing (p1 : Int32) (p2 : Int32) (σ : zS) : zPr (sX11_laughing σ.2.2) σ Prod.snd (fX11_laughing p1 p2 σ) := by
  unfold fX11_laughing
  have hc := zSm.rfl (sX11_laughing σ.2.2) σ
  repeat' first
    | exact zPr.none
    | exact zPr.some (by assumption)
    | refine zPr.ite ?_ ?_
    | refine zPr.wI (by assumption) (by simp only [sX11_laughing, List.mem_cons, List.not_mem_nil, or_false]; omega) (fun _ _ => ?_)
    | refine zPr.wL (by assumption) (by simp only [sX11_laughing, List.mem_cons, List.not_mem_nil, or_false]; omega) (fun _ _ => ?_)
    | refine zPr.bI (by assumption) (by simp only [sX11_laughing, List.mem_cons, List.not_mem_nil, or_false]; omega) (fun _ _ => ?_)
    | refine zPr.bL (by assumption) (by simp only [sX11_laughing, List.mem_cons, List.not_mem_nil, or_false]; omega) (fun _ _ => ?_)
    | refine zPr.wC (by assumption) (by simp only [sX11_laughing, List.mem_cons, List.not_mem_nil, or_false]; omega) (fun _ _ => ?_)
    | refine zPr.aI (fun _ => ?_)
    | refine zPr.aL (fun _ => ?_)
    | refine zPr.gd ?_
    | refine zPr.bc (S' := sX11_draw) (by assumption) (mX11_draw ..) (fun p hp => by simp only [sX11_draw, sX11_laughing, List.mem_cons, List.not_mem_nil, or_false] at hp ⊢ <;> omega) (fun _ _ _ => ?_)
    | refine zPr.bnr (fun _ => ?_)
    | refine zPr.bnv (fun _ => ?_)
    | exact zPr.tail (S' := sX11_laughing) (by assumption) (mX11_laughing_24 ..) (fun _ h => h)
def sX11_driven (t : Bool × Bool × Bool) : List Nat := [101, 56, 85, 86, 88, 90, 91, 92, 93, 94, 95, 96]
theorem mX11_driven_197 : ∀ (fuel : Nat) (x1 : Int32) (x5 : Int32) (x6 : Int32) (σ : zS), zPr (sX11_driven σ.2.2) σ Prod.snd (fX11_driven_197 fuel x1 x5 x6 σ) := by
  intro fuel
  induction fuel with
  | zero => intro x1 x5 x6 σ; exact zPr.none
  | succ f ih =>
    intro x1 x5 x6 σ
    rw [fX11_driven_197]
    have hc := zSm.rfl (sX11_driven σ.2.2) σ
    repeat' first
      | exact zPr.none
      | exact zPr.some (by assumption)
      | refine zPr.ite ?_ ?_
      | refine zPr.wI (by assumption) (by simp only [sX11_driven, List.mem_cons, List.not_mem_nil, or_false]; omega) (fun _ _ => ?_)
      | refine zPr.wL (by assumption) (by simp only [sX11_driven, List.mem_cons, List.not_mem_nil, or_false]; omega) (fun _ _ => ?_)
      | refine zPr.bI (by assumption) (by simp only [sX11_driven, List.mem_cons, List.not_mem_nil, or_false]; omega) (fun _ _ => ?_)
      | refine zPr.bL (by assumption) (by simp only [sX11_driven, List.mem_cons, List.not_mem_nil, or_false]; omega) (fun _ _ => ?_)
      | refine zPr.wC (by assumption) (by simp only [sX11_driven, List.mem_cons, List.not_mem_nil, or_false]; omega) (fun _ _ => ?_)
      | refine zPr.aI (fun _ => ?_)
      | refine zPr.aL (fun _ => ?_)
      | refine zPr.gd ?_
      | refine zPr.bw (S' := sX11_allHold) (by assumption) (mX11_allHold ..) (fun p hp => by simp only [sX11_allHold, sX11_driven, List.mem_cons, List.not_mem_nil, or_false] at hp ⊢ <;> omega) (fun _ _ => ?_)
      | refine zPr.bc (S' := sX11_breathNow) (by assumption) (mX11_breathNow ..) (fun p hp => by simp only [sX11_breathNow, sX11_driven, List.mem_cons, List.not_mem_nil, or_false] at hp ⊢ <;> omega) (fun _ _ _ => ?_)
      | refine zPr.bc (S' := sX11_draw) (by assumption) (mX11_draw ..) (fun p hp => by simp only [sX11_draw, sX11_driven, List.mem_cons, List.not_mem_nil, or_false] at hp ⊢ <;> omega) (fun _ _ _ => ?_)
      | refine zPr.bc (S' := sX11_laughing) (by assumption) (mX11_laughing ..) (fun p hp => by simp only [sX11_laughing, sX11_driven, List.mem_cons, List.not_mem_nil, or_false] at hp ⊢ <;> omega) (fun _ _ _ => ?_)
      | refine zPr.bc (S' := sX11_worthRow) (by assumption) (mX11_worthRow ..) (fun p hp => by simp only [sX11_worthRow, sX11_driven, List.mem_cons, List.not_mem_nil, or_false] at hp ⊢ <;> omega) (fun _ _ _ => ?_)
      | refine zPr.bw (S' := sX11_writesDown) (by assumption) (mX11_writesDown ..) (fun p hp => by simp only [sX11_writesDown, sX11_driven, List.mem_cons, List.not_mem_nil, or_false] at hp ⊢ <;> omega) (fun _ _ => ?_)
      | refine zPr.bnr (fun _ => ?_)
      | refine zPr.bnv (fun _ => ?_)
      | exact zPr.tail (S' := sX11_driven) (by assumption) (ih ..) (fun _ h => h)
theorem mX11_driven_120 : ∀ (fuel : Nat) (x1 : Int32) (x4 : Int32) (x5 : Int32) (x6 : Int32) (σ : zS), zPr (sX11_driven σ.2.2) σ Prod.snd (fX11_driven_120 fuel x1 x4 x5 x6 σ) := by
  intro fuel
  induction fuel with
  | zero => intro x1 x4 x5 x6 σ; exact zPr.none
  | succ f ih =>
    intro x1 x4 x5 x6 σ
    rw [fX11_driven_120]
    have hc := zSm.rfl (sX11_driven σ.2.2) σ
    repeat' first
      | exact zPr.none
      | exact zPr.some (by assumption)
      | refine zPr.ite ?_ ?_
      | refine zPr.wI (by assumption) (by simp only [sX11_driven, List.mem_cons, List.not_mem_nil, or_false]; omega) (fun _ _ => ?_)
      | refine zPr.wL (by assumption) (by simp only [sX11_driven, List.mem_cons, List.not_mem_nil, or_false]; omega) (fun _ _ => ?_)
      | refine zPr.bI (by assumption) (by simp only [sX11_driven, List.mem_cons, List.not_mem_nil, or_false]; omega) (fun _ _ => ?_)
      | refine zPr.bL (by assumption) (by simp only [sX11_driven, List.mem_cons, List.not_mem_nil, or_false]; omega) (fun _ _ => ?_)
      | refine zPr.wC (by assumption) (by simp only [sX11_driven, List.mem_cons, List.not_mem_nil, or_false]; omega) (fun _ _ => ?_)
      | refine zPr.aI (fun _ => ?_)
      | refine zPr.aL (fun _ => ?_)
      | refine zPr.gd ?_
      | refine zPr.bw (S' := sX11_allHold) (by assumption) (mX11_allHold ..) (fun p hp => by simp only [sX11_allHold, sX11_driven, List.mem_cons, List.not_mem_nil, or_false] at hp ⊢ <;> omega) (fun _ _ => ?_)
      | refine zPr.bc (S' := sX11_breathNow) (by assumption) (mX11_breathNow ..) (fun p hp => by simp only [sX11_breathNow, sX11_driven, List.mem_cons, List.not_mem_nil, or_false] at hp ⊢ <;> omega) (fun _ _ _ => ?_)
      | refine zPr.bc (S' := sX11_draw) (by assumption) (mX11_draw ..) (fun p hp => by simp only [sX11_draw, sX11_driven, List.mem_cons, List.not_mem_nil, or_false] at hp ⊢ <;> omega) (fun _ _ _ => ?_)
      | refine zPr.bc (S' := sX11_laughing) (by assumption) (mX11_laughing ..) (fun p hp => by simp only [sX11_laughing, sX11_driven, List.mem_cons, List.not_mem_nil, or_false] at hp ⊢ <;> omega) (fun _ _ _ => ?_)
      | refine zPr.bc (S' := sX11_worthRow) (by assumption) (mX11_worthRow ..) (fun p hp => by simp only [sX11_worthRow, sX11_driven, List.mem_cons, List.not_mem_nil, or_false] at hp ⊢ <;> omega) (fun _ _ _ => ?_)
      | refine zPr.bw (S' := sX11_writesDown) (by assumption) (mX11_writesDown ..) (fun p hp => by simp only [sX11_writesDown, sX11_driven, List.mem_cons, List.not_mem_nil, or_false] at hp ⊢ <;> omega) (fun _ _ => ?_)
      | refine zPr.bnr (fun _ => ?_)
      | refine zPr.bnv (fun _ => ?_)
      | exact zPr.tail (S' := sX11_driven) (by assumption) (ih ..) (fun _ h => h)
      | exact zPr.tail (S' := sX11_driven) (by assumption) (mX11_driven_197 ..) (fun _ h => h)
theorem mX11_driven_65 : ∀ (fuel : Nat) (x1 : Int32) (x4 : Int32) (x5 : Int32) (x6 : Int32) (σ : zS), zPr (sX11_driven σ.2.2) σ Prod.snd (fX11_driven_65 fuel x1 x4 x5 x6 σ) := by
  intro fuel
  induction fuel with
  | zero => intro x1 x4 x5 x6 σ; exact zPr.none
  | succ f ih =>
    intro x1 x4 x5 x6 σ
    rw [fX11_driven_65]
    have hc := zSm.rfl (sX11_driven σ.2.2) σ
    repeat' first
      | exact zPr.none
      | exact zPr.some (by assumption)
      | refine zPr.ite ?_ ?_
      | refine zPr.wI (by assumption) (by simp only [sX11_driven, List.mem_cons, List.not_mem_nil, or_false]; omega) (fun _ _ => ?_)
      | refine zPr.wL (by assumption) (by simp only [sX11_driven, List.mem_cons, List.not_mem_nil, or_false]; omega) (fun _ _ => ?_)
      | refine zPr.bI (by assumption) (by simp only [sX11_driven, List.mem_cons, List.not_mem_nil, or_false]; omega) (fun _ _ => ?_)
      | refine zPr.bL (by assumption) (by simp only [sX11_driven, List.mem_cons, List.not_mem_nil, or_false]; omega) (fun _ _ => ?_)
      | refine zPr.wC (by assumption) (by simp only [sX11_driven, List.mem_cons, List.not_mem_nil, or_false]; omega) (fun _ _ => ?_)
      | refine zPr.aI (fun _ => ?_)
      | refine zPr.aL (fun _ => ?_)
      | refine zPr.gd ?_
      | refine zPr.bw (S' := sX11_allHold) (by assumption) (mX11_allHold ..) (fun p hp => by simp only [sX11_allHold, sX11_driven, List.mem_cons, List.not_mem_nil, or_false] at hp ⊢ <;> omega) (fun _ _ => ?_)
      | refine zPr.bc (S' := sX11_breathNow) (by assumption) (mX11_breathNow ..) (fun p hp => by simp only [sX11_breathNow, sX11_driven, List.mem_cons, List.not_mem_nil, or_false] at hp ⊢ <;> omega) (fun _ _ _ => ?_)
      | refine zPr.bc (S' := sX11_draw) (by assumption) (mX11_draw ..) (fun p hp => by simp only [sX11_draw, sX11_driven, List.mem_cons, List.not_mem_nil, or_false] at hp ⊢ <;> omega) (fun _ _ _ => ?_)
      | refine zPr.bc (S' := sX11_laughing) (by assumption) (mX11_laughing ..) (fun p hp => by simp only [sX11_laughing, sX11_driven, List.mem_cons, List.not_mem_nil, or_false] at hp ⊢ <;> omega) (fun _ _ _ => ?_)
      | refine zPr.bc (S' := sX11_worthRow) (by assumption) (mX11_worthRow ..) (fun p hp => by simp only [sX11_worthRow, sX11_driven, List.mem_cons, List.not_mem_nil, or_false] at hp ⊢ <;> omega) (fun _ _ _ => ?_)
      | refine zPr.bw (S' := sX11_writesDown) (by assumption) (mX11_writesDown ..) (fun p hp => by simp only [sX11_writesDown, sX11_driven, List.mem_cons, List.not_mem_nil, or_false] at hp ⊢ <;> omega) (fun _ _ => ?_)
      | refine zPr.bnr (fun _ => ?_)
      | refine zPr.bnv (fun _ => ?_)
      | exact zPr.tail (S' := sX11_driven) (by assumption) (ih ..) (fun _ h => h)
      | exact zPr.tail (S' := sX11_driven) (by assumption) (mX11_driven_197 ..) (fun _ h => h)
      | exact zPr.tail (S' := sX11_driven) (by assumption) (mX11_driven_120 ..) (fun _ h => h)
theorem mX11_driven_19 : ∀ (fuel : Nat) (x1 : Int32) (x2 : Int32) (x3 : Int32) (σ : zS), zPr (sX11_driven σ.2.2) σ Prod.snd (fX11_driven_19 fuel x1 x2 x3 σ) := by
  intro fuel
  induction fuel with
  | zero => intro x1 x2 x3 σ; exact zPr.none
  | succ f ih =>
    intro x1 x2 x3 σ
    rw [fX11_driven_19]
    have hc := zSm.rfl (sX11_driven σ.2.2) σ
    repeat' first
      | exact zPr.none
      | exact zPr.some (by assumption)
      | refine zPr.ite ?_ ?_
      | refine zPr.wI (by assumption) (by simp only [sX11_driven, List.mem_cons, List.not_mem_nil, or_false]; omega) (fun _ _ => ?_)
      | refine zPr.wL (by assumption) (by simp only [sX11_driven, List.mem_cons, List.not_mem_nil, or_false]; omega) (fun _ _ => ?_)
      | refine zPr.bI (by assumption) (by simp only [sX11_driven, List.mem_cons, List.not_mem_nil, or_false]; omega) (fun _ _ => ?_)
      | refine zPr.bL (by assumption) (by simp only [sX11_driven, List.mem_cons, List.not_mem_nil, or_false]; omega) (fun _ _ => ?_)
      | refine zPr.wC (by assumption) (by simp only [sX11_driven, List.mem_cons, List.not_mem_nil, or_false]; omega) (fun _ _ => ?_)
      | refine zPr.aI (fun _ => ?_)
      | refine zPr.aL (fun _ => ?_)
      | refine zPr.gd ?_
      | refine zPr.bw (S' := sX11_allHold) (by assumption) (mX11_allHold ..) (fun p hp => by simp only [sX11_allHold, sX11_driven, List.mem_cons, List.not_mem_nil, or_false] at hp ⊢ <;> omega) (fun _ _ => ?_)
      | refine zPr.bc (S' := sX11_breathNow) (by assumption) (mX11_breathNow ..) (fun p hp => by simp only [sX11_breathNow, sX11_driven, List.mem_cons, List.not_mem_nil, or_false] at hp ⊢ <;> omega) (fun _ _ _ => ?_)
      | refine zPr.bc (S' := sX11_draw) (by assumption) (mX11_draw ..) (fun p hp => by simp only [sX11_draw, sX11_driven, List.mem_cons, List.not_mem_nil, or_false] at hp ⊢ <;> omega) (fun _ _ _ => ?_)
      | refine zPr.bc (S' := sX11_laughing) (by assumption) (mX11_laughing ..) (fun p hp => by simp only [sX11_laughing, sX11_driven, List.mem_cons, List.not_mem_nil, or_false] at hp ⊢ <;> omega) (fun _ _ _ => ?_)
      | refine zPr.bc (S' := sX11_worthRow) (by assumption) (mX11_worthRow ..) (fun p hp => by simp only [sX11_worthRow, sX11_driven, List.mem_cons, List.not_mem_nil, or_false] at hp ⊢ <;> omega) (fun _ _ _ => ?_)
      | refine zPr.bw (S' := sX11_writesDown) (by assumption) (mX11_writesDown ..) (fun p hp => by simp only [sX11_writesDown, sX11_driven, List.mem_cons, List.not_mem_nil, or_false] at hp ⊢ <;> omega) (fun _ _ => ?_)
      | refine zPr.bnr (fun _ => ?_)
      | refine zPr.bnv (fun _ => ?_)
      | exact zPr.tail (S' := sX11_driven) (by assumption) (ih ..) (fun _ h => h)
      | exact zPr.tail (S' := sX11_driven) (by assumption) (mX11_driven_197 ..) (fun _ h => h)
      | exact zPr.tail (S' := sX11_driven) (by assumption) (mX11_driven_120 ..) (fun _ h => h)
      | exact zPr.tail (S' := sX11_driven) (by assumption) (mX11_driven_65 ..) (fun _ h => h)
theorem mX11_driven (σ : zS) : zPr (sX11_driven σ.2.2) σ Prod.snd (fX11_driven σ) := by
  unfold fX11_driven
  have hc := zSm.rfl (sX11_driven σ.2.2) σ
  repeat' first
    | exact zPr.none
    | exact zPr.some (by assumption)
    | refine zPr.ite ?_ ?_
    | refine zPr.wI (by assumption) (by simp only [sX11_driven, List.mem_cons, List.not_mem_nil, or_false]; omega) (fun _ _ => ?_)
    | refine zPr.wL (by assumption) (by simp only [sX11_driven, List.mem_cons, List.not_mem_nil, or_false]; omega) (fun _ _ => ?_)
    | refine zPr.bI (by assumption) (by simp only [sX11_driven, List.mem_cons, List.not_mem_nil, or_false]; omega) (fun _ _ => ?_)
    | refine zPr.bL (by assumption) (by simp only [sX11_driven, List.mem_cons, List.not_mem_nil, or_false]; omega) (fun _ _ => ?_)
    | refine zPr.wC (by assumption) (by simp only [sX11_driven, List.mem_cons, List.not_mem_nil, or_false]; omega) (fun _ _ => ?_)
    | refine zPr.aI (fun _ => ?_)
    | refine zPr.aL (fun _ => ?_)
    | refine zPr.gd ?_
    | refine zPr.bw (S' := sX11_allHold) (by assumption) (mX11_allHold ..) (fun p hp => by simp only [sX11_allHold, sX11_driven, List.mem_cons, List.not_mem_nil, or_false] at hp ⊢ <;> omega) (fun _ _ => ?_)
    | refine zPr.bc (S' := sX11_breathNow) (by assumption) (mX11_breathNow ..) (fun p hp => by simp only [sX11_breathNow, sX11_driven, List.mem_cons, List.not_mem_nil, or_false] at hp ⊢ <;> omega) (fun _ _ _ => ?_)
    | refine zPr.bc (S' := sX11_draw) (by assumption) (mX11_draw ..) (fun p hp => by simp only [sX11_draw, sX11_driven, List.mem_cons, List.not_mem_nil, or_false] at hp ⊢ <;> omega) (fun _ _ _ => ?_)
    | refine zPr.bc (S' := sX11_laughing) (by assumption) (mX11_laughing ..) (fun p hp => by simp only [sX11_laughing, sX11_driven, List.mem_cons, List.not_mem_nil, or_false] at hp ⊢ <;> omega) (fun _ _ _ => ?_)
    | refine zPr.bc (S' := sX11_worthRow) (by assumption) (mX11_worthRow ..) (fun p hp => by simp only [sX11_worthRow, sX11_driven, List.mem_cons, List.not_mem_nil, or_false] at hp ⊢ <;> omega) (fun _ _ _ => ?_)
    | refine zPr.bw (S' := sX11_writesDown) (by assumption) (mX11_writesDown ..) (fun p hp => by simp only [sX11_writesDown, sX11_driven, List.mem_cons, List.not_mem_nil, or_false] at hp ⊢ <;> omega) (fun _ _ => ?_)
    | refine zPr.bnr (fun _ => ?_)
    | refine zPr.bnv (fun _ => ?_)
    | exact zPr.tail (S' := sX11_driven) (by assumption) (mX11_driven_197 ..) (fun _ h => h)
    | exact zPr.tail (S' := sX11_driven) (by assumption) (mX11_driven_120 ..) (fun _ h => h)
    | exact zPr.tail (S' := sX11_driven) (by assumption) (mX11_driven_65 ..) (fun _ h => h)
    | exact zPr.tail (S' := sX11_driven) (by assumption) (mX11_driven_19 ..) (fun _ h => h)
def sX11_drive (t : Bool × Bool × Bool) : List Nat := [101, 56, 84, 85, 86, 87, 88, 89, 90, 91, 92, 93, 94, 95, 96]
theorem mX11_drive_22 (σ : zS) : zPr (sX11_drive σ.2.2) σ Prod.snd (fX11_drive_22 σ) := by
  unfold fX11_drive_22
  have hc := zSm.rfl (sX11_drive σ.2.2) σ
  repeat' first
    | exact zPr.none
    | exact zPr.some (by assumption)
    | refine zPr.ite ?_ ?_
    | refine zPr.wI (by assumption) (by simp only [sX11_drive, List.mem_cons, List.not_mem_nil, or_false]; omega) (fun _ _ => ?_)
    | refine zPr.wL (by assumption) (by simp only [sX11_drive, List.mem_cons, List.not_mem_nil, or_false]; omega) (fun _ _ => ?_)
    | refine zPr.bI (by assumption) (by simp only [sX11_drive, List.mem_cons, List.not_mem_nil, or_false]; omega) (fun _ _ => ?_)
    | refine zPr.bL (by assumption) (by simp only [sX11_drive, List.mem_cons, List.not_mem_nil, or_false]; omega) (fun _ _ => ?_)
    | refine zPr.wC (by assumption) (by simp only [sX11_drive, List.mem_cons, List.not_mem_nil, or_false]; omega) (fun _ _ => ?_)
    | refine zPr.aI (fun _ => ?_)
    | refine zPr.aL (fun _ => ?_)
    | refine zPr.gd ?_
    | refine zPr.bc (S' := sX11_driven) (by assumption) (mX11_driven ..) (fun p hp => by simp only [sX11_driven, sX11_drive, List.mem_cons, List.not_mem_nil, or_false] at hp ⊢ <;> omega) (fun _ _ _ => ?_)
    | refine zPr.bw (S' := sX11_keeps) (by assumption) (mX11_keeps ..) (fun p hp => by simp only [sX11_keeps, sX11_drive, List.mem_cons, List.not_mem_nil, or_false] at hp ⊢ <;> omega) (fun _ _ => ?_)
    | refine zPr.bc (S' := sX11_refuses) (by assumption) (mX11_refuses ..) (fun p hp => by simp only [sX11_refuses, sX11_drive, List.mem_cons, List.not_mem_nil, or_false] at hp ⊢ <;> omega) (fun _ _ _ => ?_)
    | refine zPr.bnr (fun _ => ?_)
    | refine zPr.bnv (fun _ => ?_)
theorem mX11_drive_36 : ∀ (fuel : Nat) (x1 : Int32) (x2 : Int32) (x3 : Int32) (σ : zS), zPr (sX11_drive σ.2.2) σ Prod.snd (fX11_drive_36 fuel x1 x2 x3 σ) := by
  intro fuel
  induction fuel with
  | zero => intro x1 x2 x3 σ; exact zPr.none
  | succ f ih =>
    intro x1 x2 x3 σ
    rw [fX11_drive_36]
    have hc := zSm.rfl (sX11_drive σ.2.2) σ
    repeat' first
      | exact zPr.none
      | exact zPr.some (by assumption)
      | refine zPr.ite ?_ ?_
      | refine zPr.wI (by assumption) (by simp only [sX11_drive, List.mem_cons, List.not_mem_nil, or_false]; omega) (fun _ _ => ?_)
      | refine zPr.wL (by assumption) (by simp only [sX11_drive, List.mem_cons, List.not_mem_nil, or_false]; omega) (fun _ _ => ?_)
      | refine zPr.bI (by assumption) (by simp only [sX11_drive, List.mem_cons, List.not_mem_nil, or_false]; omega) (fun _ _ => ?_)
      | refine zPr.bL (by assumption) (by simp only [sX11_drive, List.mem_cons, List.not_mem_nil, or_false]; omega) (fun _ _ => ?_)
      | refine zPr.wC (by assumption) (by simp only [sX11_drive, List.mem_cons, List.not_mem_nil, or_false]; omega) (fun _ _ => ?_)
      | refine zPr.aI (fun _ => ?_)
      | refine zPr.aL (fun _ => ?_)
      | refine zPr.gd ?_
      | refine zPr.bc (S' := sX11_driven) (by assumption) (mX11_driven ..) (fun p hp => by simp only [sX11_driven, sX11_drive, List.mem_cons, List.not_mem_nil, or_false] at hp ⊢ <;> omega) (fun _ _ _ => ?_)
      | refine zPr.bw (S' := sX11_keeps) (by assumption) (mX11_keeps ..) (fun p hp => by simp only [sX11_keeps, sX11_drive, List.mem_cons, List.not_mem_nil, or_false] at hp ⊢ <;> omega) (fun _ _ => ?_)
      | refine zPr.bc (S' := sX11_refuses) (by assumption) (mX11_refuses ..) (fun p hp => by simp only [sX11_refuses, sX11_drive, List.mem_cons, List.not_mem_nil, or_false] at hp ⊢ <;> omega) (fun _ _ _ => ?_)
      | refine zPr.bnr (fun _ => ?_)
      | refine zPr.bnv (fun _ => ?_)
      | exact zPr.tail (S' := sX11_drive) (by assumption) (ih ..) (fun _ h => h)
      | exact zPr.tail (S' := sX11_drive) (by assumption) (mX11_drive_22 ..) (fun _ h => h)
theorem mX11_drive (p1 : Int32) (σ : zS) : zPr (sX11_drive σ.2.2) σ Prod.snd (fX11_drive p1 σ) := by
  unfold fX11_drive
  have hc := zSm.rfl (sX11_drive σ.2.2) σ
  repeat' first
    | exact zPr.none
    | exact zPr.some (by assumption)
    | refine zPr.ite ?_ ?_
    | refine zPr.wI (by assumption) (by simp only [sX11_drive, List.mem_cons, List.not_mem_nil, or_false]; omega) (fun _ _ => ?_)
    | refine zPr.wL (by assumption) (by simp only [sX11_drive, List.mem_cons, List.not_mem_nil, or_false]; omega) (fun _ _ => ?_)
    | refine zPr.bI (by assumption) (by simp only [sX11_drive, List.mem_cons, List.not_mem_nil, or_false]; omega) (fun _ _ => ?_)
    | refine zPr.bL (by assumption) (by simp only [sX11_drive, List.mem_cons, List.not_mem_nil, or_false]; omega) (fun _ _ => ?_)
    | refine zPr.wC (by assumption) (by simp only [sX11_drive, List.mem_cons, List.not_mem_nil, or_false]; omega) (fun _ _ => ?_)
    | refine zPr.aI (fun _ => ?_)
    | refine zPr.aL (fun _ => ?_)
    | refine zPr.gd ?_
    | refine zPr.bc (S' := sX11_driven) (by assumption) (mX11_driven ..) (fun p hp => by simp only [sX11_driven, sX11_drive, List.mem_cons, List.not_mem_nil, or_false] at hp ⊢ <;> omega) (fun _ _ _ => ?_)
    | refine zPr.bw (S' := sX11_keeps) (by assumption) (mX11_keeps ..) (fun p hp => by simp only [sX11_keeps, sX11_drive, List.mem_cons, List.not_mem_nil, or_false] at hp ⊢ <;> omega) (fun _ _ => ?_)
    | refine zPr.bc (S' := sX11_refuses) (by assumption) (mX11_refuses ..) (fun p hp => by simp only [sX11_refuses, sX11_drive, List.mem_cons, List.not_mem_nil, or_false] at hp ⊢ <;> omega) (fun _ _ _ => ?_)
    | refine zPr.bnr (fun _ => ?_)
    | refine zPr.bnv (fun _ => ?_)
    | exact zPr.tail (S' := sX11_drive) (by assumption) (mX11_drive_22 ..) (fun _ h => h)
    | exact zPr.tail (S' := sX11_drive) (by assumption) (mX11_drive_36 ..) (fun _ h => h)
def sX11_pause (t : Bool × Bool × Bool) : List Nat := [56, 85, 86, 87, 88, 89, 90, 91, 92, 93, 94]
theorem mX11_pause_8 : ∀ (fuel : Nat) (x1 : Int32) (x2 : Int32) (σ : zS), zPr (sX11_pause σ.2.2) σ Prod.snd (fX11_pause_8 fuel x1 x2 σ) := by
  intro fuel
  induction fuel with
  | zero => intro x1 x2 σ; exact zPr.none
  | succ f ih =>
    intro x1 x2 σ
    rw [fX11_pause_8]
    have hc := zSm.rfl (sX11_pause σ.2.2) σ
    repeat' first
      | exact zPr.none
      | exact zPr.some (by assumption)
      | refine zPr.ite ?_ ?_
      | refine zPr.wI (by assumption) (by simp only [sX11_pause, List.mem_cons, List.not_mem_nil, or_false]; omega) (fun _ _ => ?_)
      | refine zPr.wL (by assumption) (by simp only [sX11_pause, List.mem_cons, List.not_mem_nil, or_false]; omega) (fun _ _ => ?_)
      | refine zPr.bI (by assumption) (by simp only [sX11_pause, List.mem_cons, List.not_mem_nil, or_false]; omega) (fun _ _ => ?_)
      | refine zPr.bL (by assumption) (by simp only [sX11_pause, List.mem_cons, List.not_mem_nil, or_false]; omega) (fun _ _ => ?_)
      | refine zPr.wC (by assumption) (by simp only [sX11_pause, List.mem_cons, List.not_mem_nil, or_false]; omega) (fun _ _ => ?_)
      | refine zPr.aI (fun _ => ?_)
      | refine zPr.aL (fun _ => ?_)
      | refine zPr.gd ?_
      | refine zPr.bw (S' := sX11_keeps) (by assumption) (mX11_keeps ..) (fun p hp => by simp only [sX11_keeps, sX11_pause, List.mem_cons, List.not_mem_nil, or_false] at hp ⊢ <;> omega) (fun _ _ => ?_)
      | refine zPr.bnr (fun _ => ?_)
      | refine zPr.bnv (fun _ => ?_)
      | exact zPr.tail (S' := sX11_pause) (by assumption) (ih ..) (fun _ h => h)
theorem mX11_pause (σ : zS) : zPr (sX11_pause σ.2.2) σ Prod.snd (fX11_pause σ) := by
  unfold fX11_pause
  have hc := zSm.rfl (sX11_pause σ.2.2) σ
  repeat' first
    | exact zPr.none
    | exact zPr.some (by assumption)
    | refine zPr.ite ?_ ?_
    | refine zPr.wI (by assumption) (by simp only [sX11_pause, List.mem_cons, List.not_mem_nil, or_false]; omega) (fun _ _ => ?_)
    | refine zPr.wL (by assumption) (by simp only [sX11_pause, List.mem_cons, List.not_mem_nil, or_false]; omega) (fun _ _ => ?_)
    | refine zPr.bI (by assumption) (by simp only [sX11_pause, List.mem_cons, List.not_mem_nil, or_false]; omega) (fun _ _ => ?_)
    | refine zPr.bL (by assumption) (by simp only [sX11_pause, List.mem_cons, List.not_mem_nil, or_false]; omega) (fun _ _ => ?_)
    | refine zPr.wC (by assumption) (by simp only [sX11_pause, List.mem_cons, List.not_mem_nil, or_false]; omega) (fun _ _ => ?_)
    | refine zPr.aI (fun _ => ?_)
    | refine zPr.aL (fun _ => ?_)
    | refine zPr.gd ?_
    | refine zPr.bw (S' := sX11_keeps) (by assumption) (mX11_keeps ..) (fun p hp => by simp only [sX11_keeps, sX11_pause, List.mem_cons, List.not_mem_nil, or_false] at hp ⊢ <;> omega) (fun _ _ => ?_)
    | refine zPr.bnr (fun _ => ?_)
    | refine zPr.bnv (fun _ => ?_)
    | exact zPr.tail (S' := sX11_pause) (by assumption) (mX11_pause_8 ..) (fun _ h => h)
def sX11_believe (t : Bool × Bool × Bool) : List Nat := [56, 84, 85, 86, 87, 88, 89, 90, 91, 92, 93, 94]
theorem mX11_believe_26 (σ : zS) : zPr (sX11_believe σ.2.2) σ Prod.snd (fX11_believe_26 σ) := by
  unfold fX11_believe_26
  have hc := zSm.rfl (sX11_believe σ.2.2) σ
  repeat' first
    | exact zPr.none
    | exact zPr.some (by assumption)
    | refine zPr.ite ?_ ?_
    | refine zPr.wI (by assumption) (by simp only [sX11_believe, List.mem_cons, List.not_mem_nil, or_false]; omega) (fun _ _ => ?_)
    | refine zPr.wL (by assumption) (by simp only [sX11_believe, List.mem_cons, List.not_mem_nil, or_false]; omega) (fun _ _ => ?_)
    | refine zPr.bI (by assumption) (by simp only [sX11_believe, List.mem_cons, List.not_mem_nil, or_false]; omega) (fun _ _ => ?_)
    | refine zPr.bL (by assumption) (by simp only [sX11_believe, List.mem_cons, List.not_mem_nil, or_false]; omega) (fun _ _ => ?_)
    | refine zPr.wC (by assumption) (by simp only [sX11_believe, List.mem_cons, List.not_mem_nil, or_false]; omega) (fun _ _ => ?_)
    | refine zPr.aI (fun _ => ?_)
    | refine zPr.aL (fun _ => ?_)
    | refine zPr.gd ?_
    | refine zPr.bw (S' := sX11_keeps) (by assumption) (mX11_keeps ..) (fun p hp => by simp only [sX11_keeps, sX11_believe, List.mem_cons, List.not_mem_nil, or_false] at hp ⊢ <;> omega) (fun _ _ => ?_)
    | refine zPr.bc (S' := sX11_refuses) (by assumption) (mX11_refuses ..) (fun p hp => by simp only [sX11_refuses, sX11_believe, List.mem_cons, List.not_mem_nil, or_false] at hp ⊢ <;> omega) (fun _ _ _ => ?_)
    | refine zPr.bnr (fun _ => ?_)
    | refine zPr.bnv (fun _ => ?_)
theorem mX11_believe (p1 : Int32) (p2 : Int32) (p3 : Int32) (σ : zS) : zPr (sX11_believe σ.2.2) σ Prod.snd (fX11_believe p1 p2 p3 σ) := by
  unfold fX11_believe
  have hc := zSm.rfl (sX11_believe σ.2.2) σ
  repeat' first
    | exact zPr.none
    | exact zPr.some (by assumption)
    | refine zPr.ite ?_ ?_
    | refine zPr.wI (by assumption) (by simp only [sX11_believe, List.mem_cons, List.not_mem_nil, or_false]; omega) (fun _ _ => ?_)
    | refine zPr.wL (by assumption) (by simp only [sX11_believe, List.mem_cons, List.not_mem_nil, or_false]; omega) (fun _ _ => ?_)
    | refine zPr.bI (by assumption) (by simp only [sX11_believe, List.mem_cons, List.not_mem_nil, or_false]; omega) (fun _ _ => ?_)
    | refine zPr.bL (by assumption) (by simp only [sX11_believe, List.mem_cons, List.not_mem_nil, or_false]; omega) (fun _ _ => ?_)
    | refine zPr.wC (by assumption) (by simp only [sX11_believe, List.mem_cons, List.not_mem_nil, or_false]; omega) (fun _ _ => ?_)
    | refine zPr.aI (fun _ => ?_)
    | refine zPr.aL (fun _ => ?_)
    | refine zPr.gd ?_
    | refine zPr.bw (S' := sX11_keeps) (by assumption) (mX11_keeps ..) (fun p hp => by simp only [sX11_keeps, sX11_believe, List.mem_cons, List.not_mem_nil, or_false] at hp ⊢ <;> omega) (fun _ _ => ?_)
    | refine zPr.bc (S' := sX11_refuses) (by assumption) (mX11_refuses ..) (fun p hp => by simp only [sX11_refuses, sX11_believe, List.mem_cons, List.not_mem_nil, or_false] at hp ⊢ <;> omega) (fun _ _ _ => ?_)
    | refine zPr.bnr (fun _ => ?_)
    | refine zPr.bnv (fun _ => ?_)
    | exact zPr.tail (S' := sX11_believe) (by assumption) (mX11_believe_26 ..) (fun _ h => h)
def sX11_give (t : Bool × Bool × Bool) : List Nat := [56, 84, 85, 86, 87, 88, 89, 90, 91, 92, 93, 94]
theorem mX11_give_18 (σ : zS) : zPr (sX11_give σ.2.2) σ Prod.snd (fX11_give_18 σ) := by
  unfold fX11_give_18
  have hc := zSm.rfl (sX11_give σ.2.2) σ
  repeat' first
    | exact zPr.none
    | exact zPr.some (by assumption)
    | refine zPr.ite ?_ ?_
    | refine zPr.wI (by assumption) (by simp only [sX11_give, List.mem_cons, List.not_mem_nil, or_false]; omega) (fun _ _ => ?_)
    | refine zPr.wL (by assumption) (by simp only [sX11_give, List.mem_cons, List.not_mem_nil, or_false]; omega) (fun _ _ => ?_)
    | refine zPr.bI (by assumption) (by simp only [sX11_give, List.mem_cons, List.not_mem_nil, or_false]; omega) (fun _ _ => ?_)
    | refine zPr.bL (by assumption) (by simp only [sX11_give, List.mem_cons, List.not_mem_nil, or_false]; omega) (fun _ _ => ?_)
    | refine zPr.wC (by assumption) (by simp only [sX11_give, List.mem_cons, List.not_mem_nil, or_false]; omega) (fun _ _ => ?_)
    | refine zPr.aI (fun _ => ?_)
    | refine zPr.aL (fun _ => ?_)
    | refine zPr.gd ?_
    | refine zPr.bw (S' := sX11_keeps) (by assumption) (mX11_keeps ..) (fun p hp => by simp only [sX11_keeps, sX11_give, List.mem_cons, List.not_mem_nil, or_false] at hp ⊢ <;> omega) (fun _ _ => ?_)
    | refine zPr.bc (S' := sX11_refuses) (by assumption) (mX11_refuses ..) (fun p hp => by simp only [sX11_refuses, sX11_give, List.mem_cons, List.not_mem_nil, or_false] at hp ⊢ <;> omega) (fun _ _ _ => ?_)
    | refine zPr.bnr (fun _ => ?_)
    | refine zPr.bnv (fun _ => ?_)
theorem mX11_give (p1 : Int32) (p2 : Int32) (σ : zS) : zPr (sX11_give σ.2.2) σ Prod.snd (fX11_give p1 p2 σ) := by
  unfold fX11_give
  have hc := zSm.rfl (sX11_give σ.2.2) σ
  repeat' first
    | exact zPr.none
    | exact zPr.some (by assumption)
    | refine zPr.ite ?_ ?_
    | refine zPr.wI (by assumption) (by simp only [sX11_give, List.mem_cons, List.not_mem_nil, or_false]; omega) (fun _ _ => ?_)
    | refine zPr.wL (by assumption) (by simp only [sX11_give, List.mem_cons, List.not_mem_nil, or_false]; omega) (fun _ _ => ?_)
    | refine zPr.bI (by assumption) (by simp only [sX11_give, List.mem_cons, List.not_mem_nil, or_false]; omega) (fun _ _ => ?_)
    | refine zPr.bL (by assumption) (by simp only [sX11_give, List.mem_cons, List.not_mem_nil, or_false]; omega) (fun _ _ => ?_)
    | refine zPr.wC (by assumption) (by simp only [sX11_give, List.mem_cons, List.not_mem_nil, or_false]; omega) (fun _ _ => ?_)
    | refine zPr.aI (fun _ => ?_)
    | refine zPr.aL (fun _ => ?_)
    | refine zPr.gd ?_
    | refine zPr.bw (S' := sX11_keeps) (by assumption) (mX11_keeps ..) (fun p hp => by simp only [sX11_keeps, sX11_give, List.mem_cons, List.not_mem_nil, or_false] at hp ⊢ <;> omega) (fun _ _ => ?_)
    | refine zPr.bc (S' := sX11_refuses) (by assumption) (mX11_refuses ..) (fun p hp => by simp only [sX11_refuses, sX11_give, List.mem_cons, List.not_mem_nil, or_false] at hp ⊢ <;> omega) (fun _ _ _ => ?_)
    | refine zPr.bnr (fun _ => ?_)
    | refine zPr.bnv (fun _ => ?_)
    | exact zPr.tail (S' := sX11_give) (by assumption) (mX11_give_18 ..) (fun _ h => h)
def sX11_seed (t : Bool × Bool × Bool) : List Nat := [56, 84]
theorem mX11_seed (p1 : Int32) (σ : zS) : zPr (sX11_seed σ.2.2) σ Prod.snd (fX11_seed p1 σ) := by
  unfold fX11_seed
  have hc := zSm.rfl (sX11_seed σ.2.2) σ
  repeat' first
    | exact zPr.none
    | exact zPr.some (by assumption)
    | refine zPr.ite ?_ ?_
    | refine zPr.wI (by assumption) (by simp only [sX11_seed, List.mem_cons, List.not_mem_nil, or_false]; omega) (fun _ _ => ?_)
    | refine zPr.wL (by assumption) (by simp only [sX11_seed, List.mem_cons, List.not_mem_nil, or_false]; omega) (fun _ _ => ?_)
    | refine zPr.bI (by assumption) (by simp only [sX11_seed, List.mem_cons, List.not_mem_nil, or_false]; omega) (fun _ _ => ?_)
    | refine zPr.bL (by assumption) (by simp only [sX11_seed, List.mem_cons, List.not_mem_nil, or_false]; omega) (fun _ _ => ?_)
    | refine zPr.wC (by assumption) (by simp only [sX11_seed, List.mem_cons, List.not_mem_nil, or_false]; omega) (fun _ _ => ?_)
    | refine zPr.aI (fun _ => ?_)
    | refine zPr.aL (fun _ => ?_)
    | refine zPr.gd ?_
    | refine zPr.bc (S' := sX11_refuses) (by assumption) (mX11_refuses ..) (fun p hp => by simp only [sX11_refuses, sX11_seed, List.mem_cons, List.not_mem_nil, or_false] at hp ⊢ <;> omega) (fun _ _ _ => ?_)
    | refine zPr.bnr (fun _ => ?_)
    | refine zPr.bnv (fun _ => ?_)
def sX11_writes (t : Bool × Bool × Bool) : List Nat := [102, 56]
theorem mX11_writes (p1 : Int32) (σ : zS) : zPr (sX11_writes σ.2.2) σ id (fX11_writes p1 σ) := by
  unfold fX11_writes
  have hc := zSm.rfl (sX11_writes σ.2.2) σ
  repeat' first
    | exact zPr.none
    | exact zPr.some (by assumption)
    | refine zPr.ite ?_ ?_
    | refine zPr.wI (by assumption) (by simp only [sX11_writes, List.mem_cons, List.not_mem_nil, or_false]; omega) (fun _ _ => ?_)
    | refine zPr.wL (by assumption) (by simp only [sX11_writes, List.mem_cons, List.not_mem_nil, or_false]; omega) (fun _ _ => ?_)
    | refine zPr.bI (by assumption) (by simp only [sX11_writes, List.mem_cons, List.not_mem_nil, or_false]; omega) (fun _ _ => ?_)
    | refine zPr.bL (by assumption) (by simp only [sX11_writes, List.mem_cons, List.not_mem_nil, or_false]; omega) (fun _ _ => ?_)
    | refine zPr.wC (by assumption) (by simp only [sX11_writes, List.mem_cons, List.not_mem_nil, or_false]; omega) (fun _ _ => ?_)
    | refine zPr.aI (fun _ => ?_)
    | refine zPr.aL (fun _ => ?_)
    | refine zPr.gd ?_
    | refine zPr.bnr (fun _ => ?_)
    | refine zPr.bnv (fun _ => ?_)
def sX11_image (t : Bool × Bool × Bool) : List Nat := [102, 56]
theorem mX11_image_129 : ∀ (fuel : Nat) (x1 : Int32) (x2 : Int32) (σ : zS), zPr (sX11_image σ.2.2) σ Prod.snd (fX11_image_129 fuel x1 x2 σ) := by
  intro fuel
  induction fuel with
  | zero => intro x1 x2 σ; exact zPr.none
  | succ f ih =>
    intro x1 x2 σ
    rw [fX11_image_129]
    have hc := zSm.rfl (sX11_image σ.2.2) σ
    repeat' first
      | exact zPr.none
      | exact zPr.some (by assumption)
      | refine zPr.ite ?_ ?_
      | refine zPr.wI (by assumption) (by simp only [sX11_image, List.mem_cons, List.not_mem_nil, or_false]; omega) (fun _ _ => ?_)
      | refine zPr.wL (by assumption) (by simp only [sX11_image, List.mem_cons, List.not_mem_nil, or_false]; omega) (fun _ _ => ?_)
      | refine zPr.bI (by assumption) (by simp only [sX11_image, List.mem_cons, List.not_mem_nil, or_false]; omega) (fun _ _ => ?_)
      | refine zPr.bL (by assumption) (by simp only [sX11_image, List.mem_cons, List.not_mem_nil, or_false]; omega) (fun _ _ => ?_)
      | refine zPr.wC (by assumption) (by simp only [sX11_image, List.mem_cons, List.not_mem_nil, or_false]; omega) (fun _ _ => ?_)
      | refine zPr.aI (fun _ => ?_)
      | refine zPr.aL (fun _ => ?_)
      | refine zPr.gd ?_
      | refine zPr.bw (S' := sX11_writes) (by assumption) (mX11_writes ..) (fun p hp => by simp only [sX11_writes, sX11_image, List.mem_cons, List.not_mem_nil, or_false] at hp ⊢ <;> omega) (fun _ _ => ?_)
      | refine zPr.bnr (fun _ => ?_)
      | refine zPr.bnv (fun _ => ?_)
      | exact zPr.tail (S' := sX11_image) (by assumption) (ih ..) (fun _ h => h)
theorem mX11_image_84 (r17 : Int32 → zS → Option (Int32 × zS)) (hr17 : ∀ (x0 : Int32) (σ : zS), zPr (sX11_image σ.2.2) σ Prod.snd (r17 x0 σ)) : ∀ (fuel : Nat) (x1 : Int32) (x3 : Int32) (σ : zS), zPr (sX11_image σ.2.2) σ Prod.snd (fX11_image_84 r17 fuel x1 x3 σ) := by
  intro fuel
  induction fuel with
  | zero => intro x1 x3 σ; exact zPr.none
  | succ f ih =>
    intro x1 x3 σ
    rw [fX11_image_84]
    have hc := zSm.rfl (sX11_image σ.2.2) σ
    repeat' first
      | exact zPr.none
      | exact zPr.some (by assumption)
      | refine zPr.ite ?_ ?_
      | refine zPr.wI (by assumption) (by simp only [sX11_image, List.mem_cons, List.not_mem_nil, or_false]; omega) (fun _ _ => ?_)
      | refine zPr.wL (by assumption) (by simp only [sX11_image, List.mem_cons, List.not_mem_nil, or_false]; omega) (fun _ _ => ?_)
      | refine zPr.bI (by assumption) (by simp only [sX11_image, List.mem_cons, List.not_mem_nil, or_false]; omega) (fun _ _ => ?_)
      | refine zPr.bL (by assumption) (by simp only [sX11_image, List.mem_cons, List.not_mem_nil, or_false]; omega) (fun _ _ => ?_)
      | refine zPr.wC (by assumption) (by simp only [sX11_image, List.mem_cons, List.not_mem_nil, or_false]; omega) (fun _ _ => ?_)
      | refine zPr.aI (fun _ => ?_)
      | refine zPr.aL (fun _ => ?_)
      | refine zPr.gd ?_
      | refine zPr.bw (S' := sX11_writes) (by assumption) (mX11_writes ..) (fun p hp => by simp only [sX11_writes, sX11_image, List.mem_cons, List.not_mem_nil, or_false] at hp ⊢ <;> omega) (fun _ _ => ?_)
      | refine zPr.bnr (fun _ => ?_)
      | refine zPr.bnv (fun _ => ?_)
      | exact zPr.tail (S' := sX11_image) (by assumption) (ih ..) (fun _ h => h)
      | exact zPr.tail (S' := sX11_image) (by assumption) (hr17 ..) (fun _ h => h)
      | exact zPr.tail (S' := sX11_image) (by assumption) (mX11_image_129 ..) (fun _ h => h)
theorem mX11_image_17 : ∀ (fuel : Nat) (x1 : Int32) (σ : zS), zPr (sX11_image σ.2.2) σ Prod.snd (fX11_image_17 fuel x1 σ) := by
  intro fuel
  induction fuel with
  | zero => intro x1 σ; exact zPr.none
  | succ f ih =>
    intro x1 σ
    rw [fX11_image_17]
    have hc := zSm.rfl (sX11_image σ.2.2) σ
    repeat' first
      | exact zPr.none
      | exact zPr.some (by assumption)
      | refine zPr.ite ?_ ?_
      | refine zPr.wI (by assumption) (by simp only [sX11_image, List.mem_cons, List.not_mem_nil, or_false]; omega) (fun _ _ => ?_)
      | refine zPr.wL (by assumption) (by simp only [sX11_image, List.mem_cons, List.not_mem_nil, or_false]; omega) (fun _ _ => ?_)
      | refine zPr.bI (by assumption) (by simp only [sX11_image, List.mem_cons, List.not_mem_nil, or_false]; omega) (fun _ _ => ?_)
      | refine zPr.bL (by assumption) (by simp only [sX11_image, List.mem_cons, List.not_mem_nil, or_false]; omega) (fun _ _ => ?_)
      | refine zPr.wC (by assumption) (by simp only [sX11_image, List.mem_cons, List.not_mem_nil, or_false]; omega) (fun _ _ => ?_)
      | refine zPr.aI (fun _ => ?_)
      | refine zPr.aL (fun _ => ?_)
      | refine zPr.gd ?_
      | refine zPr.bw (S' := sX11_writes) (by assumption) (mX11_writes ..) (fun p hp => by simp only [sX11_writes, sX11_image, List.mem_cons, List.not_mem_nil, or_false] at hp ⊢ <;> omega) (fun _ _ => ?_)
      | refine zPr.bnr (fun _ => ?_)
      | refine zPr.bnv (fun _ => ?_)
      | exact zPr.tail (S' := sX11_image) (by assumption) (ih ..) (fun _ h => h)
      | exact zPr.tail (S' := sX11_image) (by assumption) (mX11_image_129 ..) (fun _ h => h)
      | exact zPr.tail (S' := sX11_image) (by assumption) (mX11_image_84 _ (by first | assumption | exact ih | (intros; apply ih) | (intros; apply mX11_image_17)) ..) (fun _ h => h)
theorem mX11_image (σ : zS) : zPr (sX11_image σ.2.2) σ Prod.snd (fX11_image σ) := by
  unfold fX11_image
  have hc := zSm.rfl (sX11_image σ.2.2) σ
  repeat' first
    | exact zPr.none
    | exact zPr.some (by assumption)
    | refine zPr.ite ?_ ?_
    | refine zPr.wI (by assumption) (by simp only [sX11_image, List.mem_cons, List.not_mem_nil, or_false]; omega) (fun _ _ => ?_)
    | refine zPr.wL (by assumption) (by simp only [sX11_image, List.mem_cons, List.not_mem_nil, or_false]; omega) (fun _ _ => ?_)
    | refine zPr.bI (by assumption) (by simp only [sX11_image, List.mem_cons, List.not_mem_nil, or_false]; omega) (fun _ _ => ?_)
    | refine zPr.bL (by assumption) (by simp only [sX11_image, List.mem_cons, List.not_mem_nil, or_false]; omega) (fun _ _ => ?_)
    | refine zPr.wC (by assumption) (by simp only [sX11_image, List.mem_cons, List.not_mem_nil, or_false]; omega) (fun _ _ => ?_)
    | refine zPr.aI (fun _ => ?_)
    | refine zPr.aL (fun _ => ?_)
    | refine zPr.gd ?_
    | refine zPr.bw (S' := sX11_writes) (by assumption) (mX11_writes ..) (fun p hp => by simp only [sX11_writes, sX11_image, List.mem_cons, List.not_mem_nil, or_false] at hp ⊢ <;> omega) (fun _ _ => ?_)
    | refine zPr.bnr (fun _ => ?_)
    | refine zPr.bnv (fun _ => ?_)
    | exact zPr.tail (S' := sX11_image) (by assumption) (mX11_image_129 ..) (fun _ h => h)
    | exact zPr.tail (S' := sX11_image) (by assumption) (mX11_image_84 _ (by first | assumption | exact ih | (intros; apply ih) | (intros; apply mX11_image_17)) ..) (fun _ h => h)
    | exact zPr.tail (S' := sX11_image) (by assumption) (mX11_image_17 ..) (fun _ h => h)
def sX11_holderOn (t : Bool × Bool × Bool) : List Nat := [86, 87, 88, 89]
theorem mX11_holderOn_120 : ∀ (fuel : Nat) (x1 : Int32) (x2 : Int32) (x4 : Int32) (σ : zS), zPr (sX11_holderOn σ.2.2) σ Prod.snd (fX11_holderOn_120 fuel x1 x2 x4 σ) := by
  intro fuel
  induction fuel with
  | zero => intro x1 x2 x4 σ; exact zPr.none
  | succ f ih =>
    intro x1 x2 x4 σ
    rw [fX11_holderOn_120]
    have hc := zSm.rfl (sX11_holderOn σ.2.2) σ
    repeat' first
      | exact zPr.none
      | exact zPr.some (by assumption)
      | refine zPr.ite ?_ ?_
      | refine zPr.wI (by assumption) (by simp only [sX11_holderOn, List.mem_cons, List.not_mem_nil, or_false]; omega) (fun _ _ => ?_)
      | refine zPr.wL (by assumption) (by simp only [sX11_holderOn, List.mem_cons, List.not_mem_nil, or_false]; omega) (fun _ _ => ?_)
      | refine zPr.bI (by assumption) (by simp only [sX11_holderOn, List.mem_cons, List.not_mem_nil, or_false]; omega) (fun _ _ => ?_)
      | refine zPr.bL (by assumption) (by simp only [sX11_holderOn, List.mem_cons, List.not_mem_nil, or_false]; omega) (fun _ _ => ?_)
      | refine zPr.wC (by assumption) (by simp only [sX11_holderOn, List.mem_cons, List.not_mem_nil, or_false]; omega) (fun _ _ => ?_)
      | refine zPr.aI (fun _ => ?_)
      | refine zPr.aL (fun _ => ?_)
      | refine zPr.gd ?_
      | refine zPr.bnr (fun _ => ?_)
      | refine zPr.bnv (fun _ => ?_)
      | exact zPr.tail (S' := sX11_holderOn) (by assumption) (ih ..) (fun _ h => h)
theorem mX11_holderOn (p1 : Int32) (p2 : Int32) (σ : zS) : zPr (sX11_holderOn σ.2.2) σ Prod.snd (fX11_holderOn p1 p2 σ) := by
  unfold fX11_holderOn
  have hc := zSm.rfl (sX11_holderOn σ.2.2) σ
  repeat' first
    | exact zPr.none
    | exact zPr.some (by assumption)
    | refine zPr.ite ?_ ?_
    | refine zPr.wI (by assumption) (by simp only [sX11_holderOn, List.mem_cons, List.not_mem_nil, or_false]; omega) (fun _ _ => ?_)
    | refine zPr.wL (by assumption) (by simp only [sX11_holderOn, List.mem_cons, List.not_mem_nil, or_false]; omega) (fun _ _ => ?_)
    | refine zPr.bI (by assumption) (by simp only [sX11_holderOn, List.mem_cons, List.not_mem_nil, or_false]; omega) (fun _ _ => ?_)
    | refine zPr.bL (by assumption) (by simp only [sX11_holderOn, List.mem_cons, List.not_mem_nil, or_false]; omega) (fun _ _ => ?_)
    | refine zPr.wC (by assumption) (by simp only [sX11_holderOn, List.mem_cons, List.not_mem_nil, or_false]; omega) (fun _ _ => ?_)
    | refine zPr.aI (fun _ => ?_)
    | refine zPr.aL (fun _ => ?_)
    | refine zPr.gd ?_
    | refine zPr.bnr (fun _ => ?_)
    | refine zPr.bnv (fun _ => ?_)
    | exact zPr.tail (S' := sX11_holderOn) (by assumption) (mX11_holderOn_120 ..) (fun _ h => h)
def sX11_comesOn (t : Bool × Bool × Bool) : List Nat := [85, 86, 87, 88, 89, 90, 91, 92, 93, 94]
theorem mX11_comesOn_143 : ∀ (fuel : Nat) (x2 : Int32) (x4 : Int32) (σ : zS), zPr (sX11_comesOn σ.2.2) σ Prod.snd (fX11_comesOn_143 fuel x2 x4 σ) := by
  intro fuel
  induction fuel with
  | zero => intro x2 x4 σ; exact zPr.none
  | succ f ih =>
    intro x2 x4 σ
    rw [fX11_comesOn_143]
    have hc := zSm.rfl (sX11_comesOn σ.2.2) σ
    repeat' first
      | exact zPr.none
      | exact zPr.some (by assumption)
      | refine zPr.ite ?_ ?_
      | refine zPr.wI (by assumption) (by simp only [sX11_comesOn, List.mem_cons, List.not_mem_nil, or_false]; omega) (fun _ _ => ?_)
      | refine zPr.wL (by assumption) (by simp only [sX11_comesOn, List.mem_cons, List.not_mem_nil, or_false]; omega) (fun _ _ => ?_)
      | refine zPr.bI (by assumption) (by simp only [sX11_comesOn, List.mem_cons, List.not_mem_nil, or_false]; omega) (fun _ _ => ?_)
      | refine zPr.bL (by assumption) (by simp only [sX11_comesOn, List.mem_cons, List.not_mem_nil, or_false]; omega) (fun _ _ => ?_)
      | refine zPr.wC (by assumption) (by simp only [sX11_comesOn, List.mem_cons, List.not_mem_nil, or_false]; omega) (fun _ _ => ?_)
      | refine zPr.aI (fun _ => ?_)
      | refine zPr.aL (fun _ => ?_)
      | refine zPr.gd ?_
      | refine zPr.bw (S' := sX11_copies) (by assumption) (mX11_copies ..) (fun p hp => by simp only [sX11_copies, sX11_comesOn, List.mem_cons, List.not_mem_nil, or_false] at hp ⊢ <;> omega) (fun _ _ => ?_)
      | refine zPr.bc (S' := sX11_holderOn) (by assumption) (mX11_holderOn ..) (fun p hp => by simp only [sX11_holderOn, sX11_comesOn, List.mem_cons, List.not_mem_nil, or_false] at hp ⊢ <;> omega) (fun _ _ _ => ?_)
      | refine zPr.bnr (fun _ => ?_)
      | refine zPr.bnv (fun _ => ?_)
      | exact zPr.tail (S' := sX11_comesOn) (by assumption) (ih ..) (fun _ h => h)
theorem mX11_comesOn_71 : ∀ (fuel : Nat) (x1 : Int32) (x2 : Int32) (x3 : Int32) (x4 : Int32) (σ : zS), zPr (sX11_comesOn σ.2.2) σ Prod.snd (fX11_comesOn_71 fuel x1 x2 x3 x4 σ) := by
  intro fuel
  induction fuel with
  | zero => intro x1 x2 x3 x4 σ; exact zPr.none
  | succ f ih =>
    intro x1 x2 x3 x4 σ
    rw [fX11_comesOn_71]
    have hc := zSm.rfl (sX11_comesOn σ.2.2) σ
    repeat' first
      | exact zPr.none
      | exact zPr.some (by assumption)
      | refine zPr.ite ?_ ?_
      | refine zPr.wI (by assumption) (by simp only [sX11_comesOn, List.mem_cons, List.not_mem_nil, or_false]; omega) (fun _ _ => ?_)
      | refine zPr.wL (by assumption) (by simp only [sX11_comesOn, List.mem_cons, List.not_mem_nil, or_false]; omega) (fun _ _ => ?_)
      | refine zPr.bI (by assumption) (by simp only [sX11_comesOn, List.mem_cons, List.not_mem_nil, or_false]; omega) (fun _ _ => ?_)
      | refine zPr.bL (by assumption) (by simp only [sX11_comesOn, List.mem_cons, List.not_mem_nil, or_false]; omega) (fun _ _ => ?_)
      | refine zPr.wC (by assumption) (by simp only [sX11_comesOn, List.mem_cons, List.not_mem_nil, or_false]; omega) (fun _ _ => ?_)
      | refine zPr.aI (fun _ => ?_)
      | refine zPr.aL (fun _ => ?_)
      | refine zPr.gd ?_
      | refine zPr.bw (S' := sX11_copies) (by assumption) (mX11_copies ..) (fun p hp => by simp only [sX11_copies, sX11_comesOn, List.mem_cons, List.not_mem_nil, or_false] at hp ⊢ <;> omega) (fun _ _ => ?_)
      | refine zPr.bc (S' := sX11_holderOn) (by assumption) (mX11_holderOn ..) (fun p hp => by simp only [sX11_holderOn, sX11_comesOn, List.mem_cons, List.not_mem_nil, or_false] at hp ⊢ <;> omega) (fun _ _ _ => ?_)
      | refine zPr.bnr (fun _ => ?_)
      | refine zPr.bnv (fun _ => ?_)
      | exact zPr.tail (S' := sX11_comesOn) (by assumption) (ih ..) (fun _ h => h)
      | exact zPr.tail (S' := sX11_comesOn) (by assumption) (mX11_comesOn_143 ..) (fun _ h => h)
theorem mX11_comesOn_65 (x1 : Int32) (x2 : Int32) (σ : zS) : zPr (sX11_comesOn σ.2.2) σ Prod.snd (fX11_comesOn_65 x1 x2 σ) := by
  unfold fX11_comesOn_65
  have hc := zSm.rfl (sX11_comesOn σ.2.2) σ
  repeat' first
    | exact zPr.none
    | exact zPr.some (by assumption)
    | refine zPr.ite ?_ ?_
    | refine zPr.wI (by assumption) (by simp only [sX11_comesOn, List.mem_cons, List.not_mem_nil, or_false]; omega) (fun _ _ => ?_)
    | refine zPr.wL (by assumption) (by simp only [sX11_comesOn, List.mem_cons, List.not_mem_nil, or_false]; omega) (fun _ _ => ?_)
    | refine zPr.bI (by assumption) (by simp only [sX11_comesOn, List.mem_cons, List.not_mem_nil, or_false]; omega) (fun _ _ => ?_)
    | refine zPr.bL (by assumption) (by simp only [sX11_comesOn, List.mem_cons, List.not_mem_nil, or_false]; omega) (fun _ _ => ?_)
    | refine zPr.wC (by assumption) (by simp only [sX11_comesOn, List.mem_cons, List.not_mem_nil, or_false]; omega) (fun _ _ => ?_)
    | refine zPr.aI (fun _ => ?_)
    | refine zPr.aL (fun _ => ?_)
    | refine zPr.gd ?_
    | refine zPr.bw (S' := sX11_copies) (by assumption) (mX11_copies ..) (fun p hp => by simp only [sX11_copies, sX11_comesOn, List.mem_cons, List.not_mem_nil, or_false] at hp ⊢ <;> omega) (fun _ _ => ?_)
    | refine zPr.bc (S' := sX11_holderOn) (by assumption) (mX11_holderOn ..) (fun p hp => by simp only [sX11_holderOn, sX11_comesOn, List.mem_cons, List.not_mem_nil, or_false] at hp ⊢ <;> omega) (fun _ _ _ => ?_)
    | refine zPr.bnr (fun _ => ?_)
    | refine zPr.bnv (fun _ => ?_)
    | exact zPr.tail (S' := sX11_comesOn) (by assumption) (mX11_comesOn_143 ..) (fun _ h => h)
    | exact zPr.tail (S' := sX11_comesOn) (by assumption) (mX11_comesOn_71 ..) (fun _ h => h)
theorem mX11_comesOn (p1 : Int32) (σ : zS) : zPr (sX11_comesOn σ.2.2) σ Prod.snd (fX11_comesOn p1 σ) := by
  unfold fX11_comesOn
  have hc := zSm.rfl (sX11_comesOn σ.2.2) σ
  repeat' first
    | exact zPr.none
    | exact zPr.some (by assumption)
    | refine zPr.ite ?_ ?_
    | refine zPr.wI (by assumption) (by simp only [sX11_comesOn, List.mem_cons, List.not_mem_nil, or_false]; omega) (fun _ _ => ?_)
    | refine zPr.wL (by assumption) (by simp only [sX11_comesOn, List.mem_cons, List.not_mem_nil, or_false]; omega) (fun _ _ => ?_)
    | refine zPr.bI (by assumption) (by simp only [sX11_comesOn, List.mem_cons, List.not_mem_nil, or_false]; omega) (fun _ _ => ?_)
    | refine zPr.bL (by assumption) (by simp only [sX11_comesOn, List.mem_cons, List.not_mem_nil, or_false]; omega) (fun _ _ => ?_)
    | refine zPr.wC (by assumption) (by simp only [sX11_comesOn, List.mem_cons, List.not_mem_nil, or_false]; omega) (fun _ _ => ?_)
    | refine zPr.aI (fun _ => ?_)
    | refine zPr.aL (fun _ => ?_)
    | refine zPr.gd ?_
    | refine zPr.bw (S' := sX11_copies) (by assumption) (mX11_copies ..) (fun p hp => by simp only [sX11_copies, sX11_comesOn, List.mem_cons, List.not_mem_nil, or_false] at hp ⊢ <;> omega) (fun _ _ => ?_)
    | refine zPr.bc (S' := sX11_holderOn) (by assumption) (mX11_holderOn ..) (fun p hp => by simp only [sX11_holderOn, sX11_comesOn, List.mem_cons, List.not_mem_nil, or_false] at hp ⊢ <;> omega) (fun _ _ _ => ?_)
    | refine zPr.bnr (fun _ => ?_)
    | refine zPr.bnv (fun _ => ?_)
    | exact zPr.tail (S' := sX11_comesOn) (by assumption) (mX11_comesOn_143 ..) (fun _ h => h)
    | exact zPr.tail (S' := sX11_comesOn) (by assumption) (mX11_comesOn_71 ..) (fun _ h => h)
    | exact zPr.tail (S' := sX11_comesOn) (by assumption) (mX11_comesOn_65 ..) (fun _ h => h)
def sX11_goOn (t : Bool × Bool × Bool) : List Nat := [56, 84, 85, 86, 87, 88, 89, 90, 91, 92, 93, 94]
theorem mX11_goOn (σ : zS) : zPr (sX11_goOn σ.2.2) σ Prod.snd (fX11_goOn σ) := by
  unfold fX11_goOn
  have hc := zSm.rfl (sX11_goOn σ.2.2) σ
  repeat' first
    | exact zPr.none
    | exact zPr.some (by assumption)
    | refine zPr.ite ?_ ?_
    | refine zPr.wI (by assumption) (by simp only [sX11_goOn, List.mem_cons, List.not_mem_nil, or_false]; omega) (fun _ _ => ?_)
    | refine zPr.wL (by assumption) (by simp only [sX11_goOn, List.mem_cons, List.not_mem_nil, or_false]; omega) (fun _ _ => ?_)
    | refine zPr.bI (by assumption) (by simp only [sX11_goOn, List.mem_cons, List.not_mem_nil, or_false]; omega) (fun _ _ => ?_)
    | refine zPr.bL (by assumption) (by simp only [sX11_goOn, List.mem_cons, List.not_mem_nil, or_false]; omega) (fun _ _ => ?_)
    | refine zPr.wC (by assumption) (by simp only [sX11_goOn, List.mem_cons, List.not_mem_nil, or_false]; omega) (fun _ _ => ?_)
    | refine zPr.aI (fun _ => ?_)
    | refine zPr.aL (fun _ => ?_)
    | refine zPr.gd ?_
    | refine zPr.bc (S' := sX11_comesOn) (by assumption) (mX11_comesOn ..) (fun p hp => by simp only [sX11_comesOn, sX11_goOn, List.mem_cons, List.not_mem_nil, or_false] at hp ⊢ <;> omega) (fun _ _ _ => ?_)
    | refine zPr.bw (S' := sX11_copies) (by assumption) (mX11_copies ..) (fun p hp => by simp only [sX11_copies, sX11_goOn, List.mem_cons, List.not_mem_nil, or_false] at hp ⊢ <;> omega) (fun _ _ => ?_)
    | refine zPr.bc (S' := sX11_refuses) (by assumption) (mX11_refuses ..) (fun p hp => by simp only [sX11_refuses, sX11_goOn, List.mem_cons, List.not_mem_nil, or_false] at hp ⊢ <;> omega) (fun _ _ _ => ?_)
    | refine zPr.bnr (fun _ => ?_)
    | refine zPr.bnv (fun _ => ?_)

/-! pure: THE INVARIANT between the class's state and the reference's -/
/-- a ground g: g 0 heights, g 1 how many lie, g 2 their worth, g 3 how many are in, g 4 their worth, g 5 planks (1 east, 2 south) -/
abbrev Gr : Type := Nat → Nat → Nat
/-- the reference's block of a ground, from place B of its row on -/
def BLK (τ : St) (B : Nat) (g : Gr) : Prop := ∀ i, i < 30 → τ 1 (B + i) = nI (g 0 i) ∧ τ 1 (B + 30 + i) = nI (g 1 i + 1048576 * g 5 i) ∧ τ 1 (B + 60 + i) = nI (g 2 i) ∧ τ 1 (B + 90 + i) = nI (g 3 i) ∧ τ 1 (B + 120 + i) = nI (g 4 i)
/-- ground and past, from place B on -/
def MB (τ : St) (B : Nat) (g : Gr) (d : Nat) (P : Nat → Gr) : Prop := τ 1 B = nI d ∧ BLK τ (B + 1) g ∧ ∀ k, k < d → BLK τ (B + 1 + 152 * (1 + k)) (P k)
/-- how many planks there are -/
def pcnt (pb : Nat → Nat) : Nat → Nat
  | 0 => 0
  | s + 1 => pcnt pb s + (if plk pb s then 1 else 0)
/-- the ways that planks shut at a cell, as bits -/
def pway (w h : Nat) (pb : Nat → Nat) (i : Nat) : Nat → Nat
  | 0 => 0
  | v + 1 => pway w h pb i v + (if !edge w h i v && plk pb (sid w i v) then 2 ^ v else 0)
/-- the ways that kerbs and the edge shut -/
def kway (w h kE kS i : Nat) : Nat → Nat
  | 0 => 0
  | v + 1 => kway w h kE kS i v + (if edge w h i v || kerb kE kS (sid w i v) then 2 ^ v else 0)
/-- a deed (kind, cell, how much, worth) leads from the ground b to the ground a -/
def UND (w h : Nat) (kd at_ : Nat) (much : Int32) (wo : Nat) (a b : Gr) : Prop :=
  at_ < w * h ∧
  ((kd = 0 ∧ much = 1 ∧ (∀ i, a 0 i = b 0 i) ∧ (∀ i, a 1 i = b 1 i + (if i = at_ then 1 else 0)) ∧ (∀ i, a 2 i = b 2 i + (if i = at_ then wo else 0)) ∧ (∀ i, a 3 i = b 3 i) ∧ (∀ i, a 4 i = b 4 i) ∧ ∀ i, a 5 i = b 5 i) ∨
   (kd = 1 ∧ much = 1 ∧ (∀ i, a 0 i = b 0 i) ∧ (∀ i, a 1 i = b 1 i) ∧ (∀ i, a 2 i = b 2 i) ∧ (∀ i, a 3 i = b 3 i + (if i = at_ then 1 else 0)) ∧ (∀ i, a 4 i = b 4 i + (if i = at_ then wo else 0)) ∧ ∀ i, a 5 i = b 5 i) ∨
   (kd = 2 ∧ (∃ v, v < 4 ∧ much = nI v ∧ edge w h at_ v = false ∧ ∀ i, a 5 i = if i = sid w at_ v / 2 then b 5 i ^^^ 2 ^ (sid w at_ v % 2) else b 5 i) ∧ (∀ i, a 0 i = b 0 i) ∧ (∀ i, a 1 i = b 1 i) ∧ (∀ i, a 2 i = b 2 i) ∧ (∀ i, a 3 i = b 3 i) ∧ ∀ i, a 4 i = b 4 i) ∨
   (kd = 3 ∧ ((much = 1 ∧ ∀ i, a 0 i = b 0 i + (if i = at_ then 1 else 0)) ∨ (much = -1 ∧ ∀ i, b 0 i = a 0 i + (if i = at_ then 1 else 0))) ∧ (∀ i, a 1 i = b 1 i) ∧ (∀ i, a 2 i = b 2 i) ∧ (∀ i, a 3 i = b 3 i) ∧ (∀ i, a 4 i = b 4 i) ∧ ∀ i, a 5 i = b 5 i) ∨
   (kd = 4 ∧ much = nI (b 1 at_) ∧ wo = b 2 at_ ∧ (∀ i, a 0 i = b 0 i) ∧ (∀ i, a 1 i = if i = at_ then 0 else b 1 i) ∧ (∀ i, a 2 i = if i = at_ then 0 else b 2 i) ∧ (∀ i, a 3 i = b 3 i) ∧ (∀ i, a 4 i = b 4 i) ∧ ∀ i, a 5 i = b 5 i))
/-- the class's ground at the cell b: the ground, the deeds that lead back -/
def SGo (σ : St) (b w h : Nat) (g : Gr) (d : Nat) (P : Nat → Gr) : Prop :=
  σ b 0 = nI (pcnt (g 5) 60) ∧ σ b 1 = nI d ∧
  (∀ i, i < w * h → σ (b + 1) i = nI (g 0 i) ∧ σ (b + 2) i = nI (pway w h (g 5) i 4) ∧ σ (b + 3) i = nI (g 1 i) ∧ σ (b + 4) i = nI (g 2 i) ∧ σ (b + 5) i = nI (g 3 i) ∧ σ (b + 6) i = nI (g 4 i)) ∧
  ∀ k, k < d → ∃ kd at_ wo, σ (b + 7) k = nI kd ∧ σ (b + 8) k = nI at_ ∧ σ (b + 10) k = nI wo ∧ UND w h kd at_ (σ (b + 9) k) wo (if k + 1 = d then g else P (k + 1)) (P k)
/-- a sum over the first cells -/
def sumN (f : Nat → Nat) : Nat → Nat
  | 0 => 0
  | n + 1 => sumN f n + f n
/-- a ground that can be -/
def GV (w h kE kS : Nat) (g : Gr) : Prop :=
  (∀ i, i < 30 → g 0 i ≤ 9) ∧ (∀ i, g 5 i < 4) ∧ (∀ s, plk (g 5) s = true → s < 60 ∧ s / 2 < w * h ∧ edge w h (s / 2) (if s % 2 = 0 then 1 else 2) = false ∧ kerb kE kS s = false) ∧ pcnt (g 5) 60 ≤ 8 ∧
  sumN (g 1) 30 + sumN (g 3) 30 ≤ 999 ∧ (∀ i, i < 30 → g 2 i ≤ 99 * g 1 i ∧ g 4 i ≤ 99 * g 3 i) ∧ (∀ i, w * h ≤ i → g 1 i = 0 ∧ g 3 i = 0)
/-- what is the same in both: text, city, kinds, seen -/
def CV (w h gn kn kE kS : Nat) (gr sz wo fo : Nat → Nat) (tl : Nat) (tx : Nat → Nat) (sn : Nat) (sk sf st : Nat → Nat) : Prop :=
  ((w = 0 ∧ h = 0) ∨ (0 < w ∧ w ≤ 6 ∧ 0 < h ∧ h ≤ 5)) ∧ kE < 2 ^ 30 ∧ kS < 2 ^ 30 ∧ gn ≤ 4 ∧ kn ≤ 5 ∧ (∀ i, i < 30 → gr i ≤ 9) ∧ (∀ k, k < kn → 1 ≤ sz k ∧ sz k ≤ 9 ∧ 1 ≤ wo k ∧ wo k ≤ 99 ∧ fo k ≤ 1) ∧
  tl ≤ 200 ∧ (∀ j, j < tl → tx j < 256) ∧ sn ≤ 6 ∧ ∀ k, k < sn → sk k < kn ∧ sf k < w * h ∧ st k < w * h
/-- the reference's part -/
def IM (τ : St) (w h gn kn kE kS : Nat) (gr sz wo fo : Nat → Nat) (tl : Nat) (tx : Nat → Nat) (sn : Nat) (sk sf st : Nat → Nat) : Prop :=
  τ 0 3 = nI tl ∧ (∀ j, j < tl → τ 3 j = nI (tx j)) ∧ τ 0 4 = nI w ∧ τ 0 5 = nI h ∧ τ 0 8 = nI gn ∧ τ 0 10 = nI kn ∧ τ 0 15 = nI sn ∧ τ 6 0 = nI kE ∧ τ 6 1 = nI kS ∧ (∀ i, i < 30 → τ 5 i = nI (gr i)) ∧
  (∀ k, k < kn → τ 7 k = nI (sz k) ∧ τ 8 k = nI (wo k) ∧ τ 9 k = nI (fo k)) ∧ τ 0 30 = -9 ∧ τ 0 31 = -9 ∧ ∀ k, k < sn → τ 10 (3 * k) = nI (sk k) ∧ τ 10 (3 * k + 1) = nI (sf k) ∧ τ 10 (3 * k + 2) = nI (st k)
/-- the class's part -/
def IS (σ : St) (w h gn kn kE kS : Nat) (gr sz wo fo : Nat → Nat) (tl : Nat) (tx : Nat → Nat) (sn : Nat) (sk sf st : Nat → Nat) : Prop :=
  σ 0 1 = nI tl ∧ (∀ j, j < tl → σ 1 j = nI (tx j)) ∧ σ 10 0 = nI w ∧ σ 10 1 = nI h ∧ σ 10 2 = nI (w * h) ∧ σ 10 3 = nI gn ∧ σ 10 4 = nI kn ∧ σ 0 15 = nI sn ∧
  (∀ i, i < w * h → σ 12 i = nI (kway w h kE kS i 4) ∧ σ 13 i = nI (gr i) ∧ ∀ v, v < 4 → σ 14 (4 * i + v) = if edge w h i v then -1 else nI (nbr w i v)) ∧
  (∀ k, k < kn → σ 15 k = nI (sz k) ∧ σ 16 k = nI (wo k) ∧ σ 17 k = nI (fo k)) ∧ ∀ k, k < sn → σ 4 k = nI (sk k) ∧ σ 5 k = nI (sf k) ∧ σ 6 k = nI (st k)
/-- a ground, its past, on both sides -/
def IG (σ τ : St) (b B w h kE kS : Nat) (g : Gr) (d : Nat) (P : Nat → Gr) : Prop := SGo σ b w h g d P ∧ MB τ B g d P ∧ GV w h kE kS g ∧ d ≤ 10 ∧ ∀ k, k < d → GV w h kE kS (P k)
/-- THE INVARIANT -/
def Inv (σ τ : St) : Prop := ∃ (w h gn kn kE kS : Nat) (gr sz wo fo : Nat → Nat) (tl : Nat) (tx : Nat → Nat) (sn : Nat) (sk sf st : Nat → Nat) (g : Gr) (d : Nat) (P : Nat → Gr),
  CV w h gn kn kE kS gr sz wo fo tl tx sn sk sf st ∧ IM τ w h gn kn kE kS gr sz wo fo tl tx sn sk sf st ∧ IS σ w h gn kn kE kS gr sz wo fo tl tx sn sk sf st ∧ IG σ τ 26 0 w h kE kS g d P ∧
  (∀ im, im < 2 → ∃ kp : Bool, σ 2 im = z1 kp ∧ τ 2 im = z1 kp ∧ (kp = true → ∃ (g' : Gr) (d' : Nat) (P' : Nat → Gr), IG σ τ (37 + 11 * im) (1673 * (1 + im)) w h kE kS g' d' P')) ∧
  σ 0 100 = τ 0 100 ∧ σ 0 101 = τ 0 101

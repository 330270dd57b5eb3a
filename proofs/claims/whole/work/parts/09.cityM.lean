/-! the class reads a city: what it does with the two of them -/
/-- the two cities change places -/
def sw (i : Nat) : Nat := if 10 ≤ i ∧ i ≤ 17 then i + 8 else if 18 ≤ i ∧ i ≤ 25 then i - 8 else i
def s_sw (σ : St) : St := fun i => σ (sw i)
def cad (ad : Nat → Nat) (r : Int32) : Nat → Nat := if r < 0 then ad else fun i => ad (sw i)
def mX11_city_67 : Nat → Int32 → Int32 → St → Option (Int32 × St)
  | 0, _, _, _ => none
  | n + 1, v1, v3, σ => if v3 < 2 then
    (gd (ib v3 2) <|
    lt (s_up σ 2 (nx v3) 0) fun s7 =>
    lt (v3 + 1) fun x8 =>
    mX11_city_67 n v1 x8 s7)
    else
    (some (v1, σ))
def mX11_city_44 (v1 : Int32) (σ : St) : Option (Int32 × St) :=
  bd (mX3_layOut σ) fun r1 s2 =>
    lt (s_up s2 0 1 0) fun s4 =>
    lt (s_up s4 0 15 0) fun s5 =>
    mX11_city_67 FU v1 0 s5
def mX11_city (σ : St) : Option (Int32 × St) :=
  bd (mX7_readText (σ 0 1) σ) fun r1 s2 =>
    if r1 < 0 then
    some (r1, s2)
    else
    mX11_city_44 r1 (s_sw s2)

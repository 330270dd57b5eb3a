/-! models of the class, by program -/
def mJ7_fill_5 (i : Nat) (ni : Nat) : Nat → Int32 → Int32 → Int32 → St → Option (Int32 × St)
  | 0, _, _, _, _ => none
  | n + 1, v1, v2, v3, σ => if v2 < v3 then
    (gd (ib v2 ni) <|
    lt (s_up σ i (nx v2) v1) fun s3 =>
    lt (v2 + 1) fun x4 =>
    mJ7_fill_5 i ni n v1 x4 v3 s3)
    else
    (some (0, σ))
def mJ7_fill (i : Nat) (ni : Nat) (v1 : Int32) (σ : St) : Option (Int32 × St) :=
  lt (Int32.ofNat ni) fun x1 =>
    mJ7_fill_5 i ni FU v1 0 x1 σ

def mX2_wipe (u : Nat) (σ : St) : Option (Int32 × St) :=
  lt (s_up σ u 0 0) fun s1 =>
    lt (s_up s1 u 1 0) fun s2 =>
    lt (s_up s2 u 2 0) fun s3 =>
    lt (s_up s3 u 3 0) fun s4 =>
    lt (s_up s4 u 4 0) fun s5 =>
    bd (mJ7_fill (u + 2) 30 0 s5) fun r6 s7 =>
    bd (mJ7_fill (u + 3) 30 0 s7) fun r9 s10 =>
    some (0, s10)

def mX2_cellAt (u : Nat) (v1 : Int32) (v2 : Int32) (σ : St) : Option (Int32 × St) :=
  if v1 < 0 then
    (some ((-1), σ))
    else
    (if v1 < (σ u 0) then
    (if v2 < 0 then
    (some ((-1), σ))
    else
    (if v2 < (σ u 1) then
    (some ((((σ u 0) * v2) + v1), σ))
    else
    (some ((-1), σ))))
    else
    (some ((-1), σ)))

def mX2_noteBeside (u : Nat) (v1 : Int32) (v2 : Int32) (v3 : Int32) (σ : St) : Option (Int32 × St) :=
  gd (ib ((4 * v1) + v2) 120) <|
    lt (s_up σ (u + 4) (nx ((4 * v1) + v2)) v3) fun s2 =>
    if v3 = (-1) then
    (gd (ib v1 30) <|
    gd (ib v1 30) <|
    lt (s_up s2 (u + 2) (nx v1) ((s2 (u + 2) (nx v1)) ||| (i_shl 1 v2))) fun s5 =>
    some (0, s5))
    else
    (some (0, s2))

def mX2_stretch_118 (u : Nat) (rc : Int32 → St → Option (Int32 × St)) (v3 : Int32) (σ : St) : Option (Int32 × St) :=
  lt (v3 + 1) fun x4 =>
    rc x4 σ
def mX2_stretch_30 (u : Nat) (k118 : Int32 → St → Option (Int32 × St)) : Nat → Int32 → Int32 → St → Option (Int32 × St)
  | 0, _, _, _ => none
  | n + 1, v3, v4, σ => if v4 < (σ u 0) then
    (bd (mX2_cellAt u v4 v3 σ) fun r5 s6 =>
    bd (mX2_cellAt u v4 (v3 - 1) s6) fun r8 s9 =>
    bd (mX2_noteBeside u r5 0 r8 s9) fun r11 s12 =>
    bd (mX2_cellAt u (v4 + 1) v3 s12) fun r14 s15 =>
    bd (mX2_noteBeside u r5 1 r14 s15) fun r17 s18 =>
    bd (mX2_cellAt u v4 (v3 + 1) s18) fun r20 s21 =>
    bd (mX2_noteBeside u r5 2 r20 s21) fun r23 s24 =>
    bd (mX2_cellAt u (v4 - 1) v3 s24) fun r26 s27 =>
    bd (mX2_noteBeside u r5 3 r26 s27) fun r29 s30 =>
    lt (v4 + 1) fun x32 =>
    mX2_stretch_30 u k118 n v3 x32 s30)
    else
    (k118 v3 σ)
def mX2_stretch_19 (u : Nat) : Nat → Int32 → St → Option (Int32 × St)
  | 0, _, _ => none
  | n + 1, v3, σ => if v3 < (σ u 1) then
    (mX2_stretch_30 u (mX2_stretch_118 u (mX2_stretch_19 u n)) FU v3 0 σ)
    else
    (some (0, σ))
def mX2_stretch (u : Nat) (v1 : Int32) (v2 : Int32) (σ : St) : Option (Int32 × St) :=
  lt (s_up σ u 0 v1) fun s1 =>
    lt (s_up s1 u 1 v2) fun s2 =>
    lt (s_up s2 u 2 (v1 * v2)) fun s3 =>
    mX2_stretch_19 u FU 0 s3

def mX2_besideOf (u : Nat) (v1 : Int32) (v2 : Int32) (σ : St) : Option (Int32 × St) :=
  gd (ib ((4 * v1) + v2) 120) <|
    some ((σ (u + 4) (nx ((4 * v1) + v2))), σ)

def mX2_facing (v0 : Int32) (σ : St) : Option (Int32 × St) :=
  some ((i_rem (v0 + 2) 4), σ)

def mX2_addKerb (u : Nat) (v1 : Int32) (v2 : Int32) (σ : St) : Option (Int32 × St) :=
  gd (ib v1 30) <|
    gd (ib v1 30) <|
    lt (s_up σ (u + 2) (nx v1) ((σ (u + 2) (nx v1)) ||| (i_shl 1 v2))) fun s3 =>
    bd (mX2_besideOf u v1 v2 s3) fun r4 s5 =>
    if r4 = (-1) then
    (some (0, s5))
    else
    (gd (ib r4 30) <|
    bd (mX2_facing v2 s5) fun r8 s9 =>
    gd (ib r4 30) <|
    lt (s_up s9 (u + 2) (nx r4) ((s5 (u + 2) (nx r4)) ||| (i_shl 1 r8))) fun s12 =>
    some (0, s12))

def mX2_addKind (u : Nat) (v1 : Int32) (v2 : Int32) (v3 : Int32) (σ : St) : Option (Int32 × St) :=
  if (σ u 4) < 5 then
    (gd (ib (σ u 4) 5) <|
    lt (s_up σ (u + 5) (nx (σ u 4)) v1) fun s2 =>
    gd (ib (s2 u 4) 5) <|
    lt (s_up s2 (u + 6) (nx (s2 u 4)) v2) fun s4 =>
    gd (ib (s4 u 4) 5) <|
    lt (s_up s4 (u + 7) (nx (s4 u 4)) v3) fun s6 =>
    lt (s_up s6 u 4 ((s6 u 4) + 1)) fun s7 =>
    some (0, s7))
    else
    (some (0, σ))

def mX2_cellOfPair (u : Nat) (v1 : Int32) (σ : St) : Option (Int32 × St) :=
  if v1 < 0 then
    (some ((-1), σ))
    else
    (bd (mX2_cellAt u (v1 / 10) (i_rem v1 10) σ) fun r1 s2 =>
    some (r1, s2))

def mX2_pairOf (u : Nat) (v1 : Int32) (σ : St) : Option (Int32 × St) :=
  if (σ u 0) < 1 then
    (some ((-9), σ))
    else
    (gd (¬ (σ u 0) = 0) <|
    gd (¬ (σ u 0) = 0) <|
    some (((10 * (i_rem v1 (σ u 0))) + (v1 / (σ u 0))), σ))

def mX3_copyRow (i : Nat) (ni : Nat) (j : Nat) (nj : Nat) (σ : St) : Option (Int32 × St) :=
  gd (cp_ok 0 0 (i_min (Int32.ofNat ni) (Int32.ofNat nj)) ni nj) <|
    lt (s_row σ j (va_cpy (σ i) (σ j) (nx 0) (nx 0) (nx (i_min (Int32.ofNat ni) (Int32.ofNat nj))))) fun s2 =>
    some (0, s2)

def mX3_layOut (σ : St) : Option (Int32 × St) :=
  lt (s_up σ 26 0 0) fun s1 =>
    lt (s_up s1 26 1 0) fun s2 =>
    bd (mX3_copyRow 11 30 27 30 s2) fun r3 s4 =>
    bd (mJ7_fill 28 30 0 s4) fun r6 s7 =>
    bd (mJ7_fill 29 30 0 s7) fun r9 s10 =>
    bd (mJ7_fill 30 30 0 s10) fun r12 s13 =>
    bd (mJ7_fill 31 30 0 s13) fun r15 s16 =>
    bd (mJ7_fill 32 30 0 s16) fun r18 s19 =>
    some (0, s19)

def mX3_copyOf (g : Nat) (o : Nat) (σ : St) : Option (Int32 × St) :=
  lt (s_up σ g 0 (σ o 0)) fun s1 =>
    lt (s_up s1 g 1 (s1 o 1)) fun s2 =>
    bd (mX3_copyRow (o + 1) 30 (g + 1) 30 s2) fun r3 s4 =>
    bd (mX3_copyRow (o + 2) 30 (g + 2) 30 s4) fun r6 s7 =>
    bd (mX3_copyRow (o + 3) 30 (g + 3) 30 s7) fun r9 s10 =>
    bd (mX3_copyRow (o + 4) 30 (g + 4) 30 s10) fun r12 s13 =>
    bd (mX3_copyRow (o + 5) 30 (g + 5) 30 s13) fun r15 s16 =>
    bd (mX3_copyRow (o + 6) 30 (g + 6) 30 s16) fun r18 s19 =>
    bd (mX3_copyRow (o + 7) 10 (g + 7) 10 s19) fun r21 s22 =>
    bd (mX3_copyRow (o + 8) 10 (g + 8) 10 s22) fun r24 s25 =>
    bd (mX3_copyRow (o + 9) 10 (g + 9) 10 s25) fun r27 s28 =>
    bd (mX3_copyRow (o + 10) 10 (g + 10) 10 s28) fun r30 s31 =>
    some (0, s31)

def mX3_addCoins (v1 : Int32) (v2 : Int32) (v3 : Int32) (v4 : Int32) (σ : St) : Option (Int32 × St) :=
  if v1 = 1 then
    (gd (ib v2 30) <|
    gd (ib v2 30) <|
    lt (s_up σ 31 (nx v2) ((σ 31 (nx v2)) + v3)) fun s9 =>
    gd (ib v2 30) <|
    gd (ib v2 30) <|
    lt (s_up s9 32 (nx v2) ((s9 32 (nx v2)) + v4)) fun s12 =>
    some (0, s12))
    else
    (gd (ib v2 30) <|
    gd (ib v2 30) <|
    lt (s_up σ 29 (nx v2) ((σ 29 (nx v2)) + v3)) fun s3 =>
    gd (ib v2 30) <|
    gd (ib v2 30) <|
    lt (s_up s3 30 (nx v2) ((s3 30 (nx v2)) + v4)) fun s6 =>
    some (0, s6))

def mX3_loseOldest (i : Nat) (ni : Nat) (σ : St) : Option (Int32 × St) :=
  gd (cp_ok 1 0 ((Int32.ofNat ni) - 1) ni ni) <|
    lt (s_row σ i (va_cpy (σ i) (σ i) (nx 1) (nx 0) (nx ((Int32.ofNat ni) - 1)))) fun s2 =>
    some (0, s2)

def mX3_note_43 (v1 : Int32) (v2 : Int32) (v3 : Int32) (v4 : Int32) (σ : St) : Option (Int32 × St) :=
  gd (ib (σ 26 1) 10) <|
    lt (s_up σ 33 (nx (σ 26 1)) v1) fun s2 =>
    gd (ib (s2 26 1) 10) <|
    lt (s_up s2 34 (nx (s2 26 1)) v2) fun s4 =>
    gd (ib (s4 26 1) 10) <|
    lt (s_up s4 35 (nx (s4 26 1)) v3) fun s6 =>
    gd (ib (s6 26 1) 10) <|
    lt (s_up s6 36 (nx (s6 26 1)) v4) fun s8 =>
    lt (s_up s8 26 1 ((s8 26 1) + 1)) fun s9 =>
    some (0, s9)
def mX3_note (v1 : Int32) (v2 : Int32) (v3 : Int32) (v4 : Int32) (σ : St) : Option (Int32 × St) :=
  if (σ 26 1) < 10 then
    (mX3_note_43 v1 v2 v3 v4 σ)
    else
    (bd (mX3_loseOldest 33 10 σ) fun r10 s11 =>
    bd (mX3_loseOldest 34 10 s11) fun r13 s14 =>
    bd (mX3_loseOldest 35 10 s14) fun r16 s17 =>
    bd (mX3_loseOldest 36 10 s17) fun r19 s20 =>
    lt (s_up s20 26 1 9) fun s22 =>
    mX3_note_43 v1 v2 v3 v4 s22)

def mX3_letCome_26 (v1 : Int32) (v3 : Int32) (t0 : Int32) (σ : St) : Option (Int32 × St) :=
  bd (mX3_note t0 v1 1 v3 σ) fun r4 s5 =>
    some (0, s5)
def mX3_letCome_10 (v1 : Int32) (v2 : Int32) (v3 : Int32) (t0 : Int32) (σ : St) : Option (Int32 × St) :=
  bd (mX3_addCoins t0 v1 1 v3 σ) fun r1 s2 =>
    if v2 = 0 then
    (mX3_letCome_26 v1 v3 0 s2)
    else
    (mX3_letCome_26 v1 v3 1 s2)
def mX3_letCome (v1 : Int32) (v2 : Int32) (v3 : Int32) (σ : St) : Option (Int32 × St) :=
  if v2 = 0 then
    (mX3_letCome_10 v1 v2 v3 0 σ)
    else
    (mX3_letCome_10 v1 v2 v3 1 σ)

def mX3_turnPlank (v2 : Int32) (v3 : Int32) (σ : St) : Option (Int32 × St) :=
  bd (mX2_besideOf 10 v2 v3 σ) fun r1 s2 =>
    if r1 = (-1) then
    (some (0, s2))
    else
    (gd (ib v2 30) <|
    gd (ib v2 30) <|
    lt (s_up s2 28 (nx v2) ((s2 28 (nx v2)) ^^^ (i_shl 1 v3))) fun s6 =>
    gd (ib r1 30) <|
    bd (mX2_facing v3 s6) fun r8 s9 =>
    gd (ib r1 30) <|
    lt (s_up s9 28 (nx r1) ((s6 28 (nx r1)) ^^^ (i_shl 1 r8))) fun s12 =>
    gd (ib v2 30) <|
    if ((i_shr (s12 28 (nx v2)) v3) &&& 1) = 0 then
    (lt (s_up s12 26 0 ((s12 26 0) + (-1))) fun s14 =>
    some (0, s14))
    else
    (lt (s_up s12 26 0 ((s12 26 0) + 1)) fun s15 =>
    some (0, s15)))

def mX3_changePlank (v2 : Int32) (v3 : Int32) (σ : St) : Option (Int32 × St) :=
  bd (mX3_turnPlank v2 v3 σ) fun r1 s2 =>
    bd (mX3_note 2 v2 v3 0 s2) fun r4 s5 =>
    some ((s5 26 0), s5)

def mX3_moveCobble (v1 : Int32) (v2 : Int32) (σ : St) : Option (Int32 × St) :=
  gd (ib v1 30) <|
    gd (ib v1 30) <|
    lt (s_up σ 27 (nx v1) ((σ 27 (nx v1)) + v2)) fun s3 =>
    bd (mX3_note 3 v1 v2 0 s3) fun r4 s5 =>
    gd (ib v1 30) <|
    some ((s5 27 (nx v1)), s5)

def mX3_sweepAway (v1 : Int32) (σ : St) : Option (Int32 × St) :=
  gd (ib v1 30) <|
    lt (σ 30 (nx v1)) fun x2 =>
    gd (ib v1 30) <|
    bd (mX3_note 4 v1 (σ 29 (nx v1)) x2 σ) fun r4 s5 =>
    gd (ib v1 30) <|
    bd (mX3_addCoins 0 v1 (-(s5 29 (nx v1))) (-x2) s5) fun r8 s9 =>
    some (x2, s9)

def mX3_takeBack (σ : St) : Option (Int32 × St) :=
  if (σ 26 1) < 1 then
    (some ((-2), σ))
    else
    (lt (s_up σ 26 1 ((σ 26 1) - 1)) fun s1 =>
    gd (ib (s1 26 1) 10) <|
    lt (s1 34 (nx (s1 26 1))) fun x3 =>
    gd (ib (s1 26 1) 10) <|
    lt (s1 35 (nx (s1 26 1))) fun x5 =>
    gd (ib (s1 26 1) 10) <|
    lt (s1 36 (nx (s1 26 1))) fun x7 =>
    gd (ib (s1 26 1) 10) <|
    if (s1 33 (nx (s1 26 1))) = 2 then
    (bd (mX3_turnPlank x3 x5 s1) fun r9 s10 =>
    some ((s10 26 1), s10))
    else if (s1 33 (nx (s1 26 1))) = 3 then
    (gd (ib x3 30) <|
    gd (ib x3 30) <|
    lt (s_up s1 27 (nx x3) ((s1 27 (nx x3)) - x5)) fun s14 =>
    some ((s14 26 1), s14))
    else if (s1 33 (nx (s1 26 1))) = 4 then
    (bd (mX3_addCoins 0 x3 x5 x7 s1) fun r15 s16 =>
    some ((s16 26 1), s16))
    else 
    (gd (ib (s1 26 1) 10) <|
    bd (mX3_addCoins (s1 33 (nx (s1 26 1))) x3 (-x5) (-x7) s1) fun r19 s20 =>
    some ((s20 26 1), s20)))

def mX8_wayDown_147 (r : Nat) (rc : Int32 → Int32 → Int32 → Int32 → Int32 → Int32 → St → Option (Int32 × St)) (v3 : Int32) (v4 : Int32) (v5 : Int32) (v6 : Int32) (v7 : Int32) (v8 : Int32) (σ : St) : Option (Int32 × St) :=
  lt (v8 + 1) fun x8 =>
    rc v3 v4 v5 v6 v7 x8 σ
def mX8_wayDown_139 (r : Nat) (rc : Int32 → Int32 → Int32 → Int32 → Int32 → Int32 → St → Option (Int32 × St)) (v3 : Int32) (v4 : Int32) (v5 : Int32) (v8 : Int32) (v9 : Int32) (v11 : Int32) (σ : St) : Option (Int32 × St) :=
  mX8_wayDown_147 r rc v3 v4 v5 v11 v9 v8 σ
def mX8_wayDown_125 (r : Nat) (rc : Int32 → Int32 → Int32 → Int32 → Int32 → Int32 → St → Option (Int32 × St)) (v3 : Int32) (v4 : Int32) (v5 : Int32) (v6 : Int32) (v7 : Int32) (v8 : Int32) (v9 : Int32) (v11 : Int32) (t0 : Int32) (σ : St) : Option (Int32 × St) :=
  if v11 < v6 then
    (mX8_wayDown_139 r rc v3 v4 v5 v8 v9 v11 σ)
    else
    (if t0 = 0 then
    (mX8_wayDown_147 r rc v3 v4 v5 v6 v7 v8 σ)
    else
    (mX8_wayDown_139 r rc v3 v4 v5 v8 v9 v11 σ))
def mX8_wayDown_124 (r : Nat) (rc : Int32 → Int32 → Int32 → Int32 → Int32 → Int32 → St → Option (Int32 × St)) (v3 : Int32) (v4 : Int32) (v5 : Int32) (v6 : Int32) (v7 : Int32) (v8 : Int32) (v9 : Int32) (v11 : Int32) (σ : St) : Option (Int32 × St) :=
  mX8_wayDown_125 r rc v3 v4 v5 v6 v7 v8 v9 v11 0 σ
def mX8_wayDown_57 (r : Nat) (rc : Int32 → Int32 → Int32 → Int32 → Int32 → Int32 → St → Option (Int32 × St)) (v3 : Int32) (v4 : Int32) (v5 : Int32) (v6 : Int32) (v7 : Int32) (v8 : Int32) (t0 : Int32) (σ : St) : Option (Int32 × St) :=
  gd (ib ((4 * (σ r 0)) + t0) 120) <|
    lt (σ 14 (nx ((4 * (σ r 0)) + t0))) fun x7 =>
    if ((i_shr v5 t0) &&& 1) = 0 then
    (if x7 = (-1) then
    (mX8_wayDown_147 r rc v3 v4 v5 v6 v7 v8 σ)
    else
    (gd (ib x7 30) <|
    lt (σ 27 (nx x7)) fun x10 =>
    if x10 = v6 then
    (if v7 = (-1) then
    (mX8_wayDown_124 r rc v3 v4 v5 v6 v7 v8 t0 x10 σ)
    else
    (if t0 = v4 then
    (mX8_wayDown_125 r rc v3 v4 v5 v6 v7 v8 t0 x10 1 σ)
    else
    (mX8_wayDown_124 r rc v3 v4 v5 v6 v7 v8 t0 x10 σ)))
    else
    (mX8_wayDown_124 r rc v3 v4 v5 v6 v7 v8 t0 x10 σ)))
    else
    (mX8_wayDown_147 r rc v3 v4 v5 v6 v7 v8 σ)
def mX8_wayDown_38 (r : Nat) : Nat → Int32 → Int32 → Int32 → Int32 → Int32 → Int32 → St → Option (Int32 × St)
  | 0, _, _, _, _, _, _, _ => none
  | n + 1, v3, v4, v5, v6, v7, v8, σ => if v8 < 4 then
    (if v3 = 0 then
    (mX8_wayDown_57 r (mX8_wayDown_38 r n) v3 v4 v5 v6 v7 v8 v8 σ)
    else
    (mX8_wayDown_57 r (mX8_wayDown_38 r n) v3 v4 v5 v6 v7 v8 (3 - v8) σ))
    else
    (some (v7, σ))
def mX8_wayDown (r : Nat) (v3 : Int32) (v4 : Int32) (σ : St) : Option (Int32 × St) :=
  gd (ib (σ r 0) 30) <|
    gd (ib (σ r 0) 30) <|
    lt ((σ 12 (nx (σ r 0))) ||| (σ 28 (nx (σ r 0)))) fun x3 =>
    gd (ib (σ r 0) 30) <|
    lt (σ 27 (nx (σ r 0))) fun x5 =>
    mX8_wayDown_38 r FU v3 v4 x3 x5 (-1) 0 σ

def mX8_sideOf (v1 : Int32) (v2 : Int32) (σ : St) : Option (Int32 × St) :=
  if v2 = 0 then
    (some (((2 * (v1 - (σ 10 0))) + 1), σ))
    else if v2 = 1 then
    (some ((2 * v1), σ))
    else if v2 = 2 then
    (some (((2 * v1) + 1), σ))
    else 
    (some ((2 * (v1 - 1)), σ))

def mX8_go_30 (r : Nat) : Nat → Int32 → Int32 → Int32 → Int32 → St → Option (Int32 × St)
  | 0, _, _, _, _, _ => none
  | n + 1, v3, v4, v6, v7, σ => if 9 < v7 then
    (some (0, σ))
    else
    (gd (ib (σ r 0) 30) <|
    if (σ 13 (nx (σ r 0))) < v3 then
    (bd (mX8_wayDown r v4 v6 σ) fun r6 s7 =>
    if r6 = (-1) then
    (some (0, s7))
    else
    (bd (mX8_sideOf (s7 r 0) r6 s7) fun r9 s10 =>
    gd (ib (s7 r 2) 10) <|
    lt (s_up s10 (r + 1) (nx (s7 r 2)) r9) fun s13 =>
    lt (s_up s13 r 2 ((s13 r 2) + 1)) fun s14 =>
    bd (mX2_besideOf 10 (s14 r 0) r6 s14) fun r15 s16 =>
    lt (s_up s16 r 0 r15) fun s18 =>
    lt (s_up s18 r 3 ((s18 r 3) ||| (i_shl 1 (s18 r 0)))) fun s19 =>
    lt (v7 + 1) fun x20 =>
    mX8_go_30 r n v3 v4 r6 x20 s19))
    else
    (lt (s_up σ r 1 1) fun s21 =>
    some (0, s21)))
def mX8_go (r : Nat) (v3 : Int32) (v4 : Int32) (v5 : Int32) (σ : St) : Option (Int32 × St) :=
  lt (s_up σ r 0 v5) fun s1 =>
    lt (s_up s1 r 1 0) fun s2 =>
    lt (s_up s2 r 2 0) fun s3 =>
    lt (s_up s3 r 3 (i_shl 1 v5)) fun s4 =>
    mX8_go_30 r FU v3 v4 (-1) 0 s4

def mX8_goAs (r : Nat) (v3 : Int32) (v4 : Int32) (σ : St) : Option (Int32 × St) :=
  gd (ib v3 5) <|
    gd (ib v3 5) <|
    if (σ 17 (nx v3)) = 1 then
    (bd (mX8_go r (σ 15 (nx v3)) 1 v4 σ) fun r6 s7 =>
    some (0, s7))
    else
    (bd (mX8_go r (σ 15 (nx v3)) 0 v4 σ) fun r3 s4 =>
    some (0, s4))

def mX6_turnSide (v2 : Int32) (σ : St) : Option (Int32 × St) :=
  if (i_rem v2 2) = 0 then
    (bd (mX3_turnPlank (v2 / 2) 1 σ) fun r4 s5 =>
    some (0, s5))
    else
    (bd (mX3_turnPlank (v2 / 2) 2 σ) fun r1 s2 =>
    some (0, s2))

def mX6_offerTwo_33 (v1 : Int32) (v2 : Int32) (σ : St) : Option (Int32 × St) :=
  lt (s_up σ 61 0 2) fun s1 =>
    lt (s_up s1 61 1 v1) fun s2 =>
    lt (s_up s2 61 2 v2) fun s3 =>
    some (0, s3)
def mX6_offerTwo (v1 : Int32) (v2 : Int32) (σ : St) : Option (Int32 × St) :=
  if (σ 61 0) = (-9) then
    (mX6_offerTwo_33 v1 v2 σ)
    else
    (if v1 < (σ 61 1) then
    (mX6_offerTwo_33 v1 v2 σ)
    else
    (if v1 = (σ 61 1) then
    (if v2 < (σ 61 2) then
    (mX6_offerTwo_33 v1 v2 σ)
    else
    (some (0, σ)))
    else
    (some (0, σ))))

def mX6_seekSecond_76 (rc : Int32 → Int32 → Int32 → Int32 → Int32 → St → Option (Int32 × St)) (v3 : Int32) (v4 : Int32) (v5 : Int32) (v6 : Int32) (v7 : Int32) (v8 : Int32) (σ : St) : Option (Int32 × St) :=
  bd (mX6_turnSide v8 σ) fun r9 s10 =>
    lt (v7 + 1) fun x12 =>
    rc v3 v4 v5 v6 x12 s10
def mX6_seekSecond_3 : Nat → Int32 → Int32 → Int32 → Int32 → Int32 → St → Option (Int32 × St)
  | 0, _, _, _, _, _, _ => none
  | n + 1, v3, v4, v5, v6, v7, σ => if v7 < (σ 64 2) then
    (gd (ib v7 10) <|
    lt (σ 65 (nx v7)) fun x2 =>
    bd (mX6_turnSide x2 σ) fun r3 s4 =>
    bd (mX8_goAs 66 v3 v4 s4) fun r6 s7 =>
    if (s7 66 0) = v5 then
    (bd (mX6_offerTwo (i_min v6 x2) (i_max v6 x2) s7) fun r13 s14 =>
    mX6_seekSecond_76 (mX6_seekSecond_3 n) v3 v4 v5 v6 v7 x2 s14)
    else
    (mX6_seekSecond_76 (mX6_seekSecond_3 n) v3 v4 v5 v6 v7 x2 s7))
    else
    (some (0, σ))
def mX6_seekSecond (v3 : Int32) (v4 : Int32) (v5 : Int32) (v6 : Int32) (σ : St) : Option (Int32 × St) :=
  mX6_seekSecond_3 FU v3 v4 v5 v6 0 σ

def mX6_offerOne_16 (v1 : Int32) (σ : St) : Option (Int32 × St) :=
  lt (s_up σ 61 0 1) fun s1 =>
    lt (s_up s1 61 1 v1) fun s2 =>
    lt (s_up s2 61 2 (-1)) fun s3 =>
    some (0, s3)
def mX6_offerOne (v1 : Int32) (σ : St) : Option (Int32 × St) :=
  if (σ 61 0) = 1 then
    (if v1 < (σ 61 1) then
    (mX6_offerOne_16 v1 σ)
    else
    (some (0, σ)))
    else
    (mX6_offerOne_16 v1 σ)

def mX6_seek_134 (rc : Int32 → Int32 → Int32 → Int32 → St → Option (Int32 × St)) (v3 : Int32) (v4 : Int32) (v5 : Int32) (v6 : Int32) (v7 : Int32) (σ : St) : Option (Int32 × St) :=
  bd (mX6_turnSide v7 σ) fun r15 s16 =>
    lt (v6 + 1) fun x18 =>
    rc v3 v4 v5 x18 s16
def mX6_seek_49 : Nat → Int32 → Int32 → Int32 → Int32 → St → Option (Int32 × St)
  | 0, _, _, _, _, _ => none
  | n + 1, v3, v4, v5, v6, σ => if v6 < (σ 62 2) then
    (gd (ib v6 10) <|
    lt (σ 63 (nx v6)) fun x8 =>
    bd (mX6_turnSide x8 σ) fun r9 s10 =>
    bd (mX8_goAs 64 v3 v4 s10) fun r12 s13 =>
    if (s13 64 0) = v5 then
    (bd (mX6_offerOne x8 s13) fun r22 s23 =>
    mX6_seek_134 (mX6_seek_49 n) v3 v4 v5 v6 x8 s23)
    else
    (if (s13 61 0) = 1 then
    (mX6_seek_134 (mX6_seek_49 n) v3 v4 v5 v6 x8 s13)
    else
    (bd (mX6_seekSecond v3 v4 v5 x8 s13) fun r19 s20 =>
    mX6_seek_134 (mX6_seek_49 n) v3 v4 v5 v6 x8 s20)))
    else
    (some (0, σ))
def mX6_seek (v3 : Int32) (v4 : Int32) (v5 : Int32) (σ : St) : Option (Int32 × St) :=
  lt (s_up σ 61 0 (-9)) fun s1 =>
    lt (s_up s1 61 1 (-1)) fun s2 =>
    lt (s_up s2 61 2 (-1)) fun s3 =>
    bd (mX8_goAs 62 v3 v4 s3) fun r4 s5 =>
    if (s5 62 0) = v5 then
    (lt (s_up s5 61 0 0) fun s25 =>
    some (0, s25))
    else
    (mX6_seek_49 FU v3 v4 v5 0 s5)

def mX7_skipBlanks_0 : Nat → St → Option (Int32 × St)
  | 0, _ => none
  | n + 1, σ => if (σ 68 2) < (σ 68 1) then
    (gd (¬ σ 68 0 = 0) <|
    gd (ib (σ 68 2) 200) <|
    if (σ 1 (nx (σ 68 2))) = 32 then
    (lt (s_up σ 68 2 ((σ 68 2) + 1)) fun s3 =>
    mX7_skipBlanks_0 n s3)
    else
    (some (0, σ)))
    else
    (some (0, σ))
def mX7_skipBlanks (σ : St) : Option (Int32 × St) :=
  mX7_skipBlanks_0 FU σ

def mX7_signAt_45 (v2 : Int32) (σ : St) : Option (Int32 × St) :=
  if v2 = 59 then
    (some (3, σ))
    else
    (some (4, σ))
def mX7_signAt_31 (v2 : Int32) (σ : St) : Option (Int32 × St) :=
  if v2 < 48 then
    (mX7_signAt_45 v2 σ)
    else
    (if 57 < v2 then
    (mX7_signAt_45 v2 σ)
    else
    (some (2, σ)))
def mX7_signAt (v1 : Int32) (σ : St) : Option (Int32 × St) :=
  if v1 < (σ 68 1) then
    (gd (¬ σ 68 0 = 0) <|
    gd (ib v1 200) <|
    lt (σ 1 (nx v1)) fun x3 =>
    if x3 < 97 then
    (mX7_signAt_31 x3 σ)
    else
    (if 122 < x3 then
    (mX7_signAt_31 x3 σ)
    else
    (some (1, σ))))
    else
    (some (0, σ))

def mX7_weigh_65 (v1 : Int32) (σ : St) : Option (Int32 × St) :=
  if (σ 68 4) = 2 then
    (gd (¬ σ 68 0 = 0) <|
    gd (ib (σ 68 3) 200) <|
    gd (¬ σ 68 0 = 0) <|
    gd (ib ((σ 68 3) + 1) 200) <|
    lt (s_up σ 68 5 (((10 * ((σ 1 (nx (σ 68 3))) - 48)) + (σ 1 (nx ((σ 68 3) + 1)))) - 48)) fun s5 =>
    if 2 < v1 then
    (lt (s_up s5 68 4 4) fun s6 =>
    some (0, s6))
    else
    (gd (¬ s5 68 0 = 0) <|
    gd (ib (s5 68 3) 200) <|
    if (s5 1 (nx (s5 68 3))) = 48 then
    (lt (s_up s5 68 4 4) fun s10 =>
    some (0, s10))
    else
    (lt (s_up s5 68 4 2) fun s9 =>
    some (0, s9))))
    else
    (some (0, σ))
def mX7_weigh (v1 : Int32) (σ : St) : Option (Int32 × St) :=
  if (σ 68 4) = 1 then
    (if v1 = 1 then
    (gd (¬ σ 68 0 = 0) <|
    gd (ib (σ 68 3) 200) <|
    lt (s_up σ 68 5 (σ 1 (nx (σ 68 3)))) fun s17 =>
    some (0, s17))
    else
    (lt (s_up σ 68 5 0) fun s14 =>
    some (0, s14)))
    else
    (if (σ 68 4) = 2 then
    (if v1 = 1 then
    (gd (¬ σ 68 0 = 0) <|
    gd (ib (σ 68 3) 200) <|
    lt (s_up σ 68 5 ((σ 1 (nx (σ 68 3))) - 48)) fun s13 =>
    some (0, s13))
    else
    (mX7_weigh_65 v1 σ))
    else
    (mX7_weigh_65 v1 σ))

def mX7_nextToken_115 (σ : St) : Option (Int32 × St) :=
  bd (mX7_weigh ((σ 68 2) - (σ 68 3)) σ) fun r11 s12 =>
    some (0, s12)
def mX7_nextToken_69 (k115 : St → Option (Int32 × St)) : Nat → Int32 → St → Option (Int32 × St)
  | 0, _, _ => none
  | n + 1, v1, σ => if v1 = 0 then
    (k115 σ)
    else
    (if (σ 68 2) < (σ 68 1) then
    (bd (mX7_signAt (σ 68 2) σ) fun r14 s15 =>
    if r14 = (s15 68 4) then
    (lt (s_up s15 68 2 ((s15 68 2) + 1)) fun s17 =>
    mX7_nextToken_69 k115 n v1 s17)
    else
    (k115 s15))
    else
    (k115 σ))
def mX7_nextToken_68 (t0 : Int32) (σ : St) : Option (Int32 × St) :=
  mX7_nextToken_69 (mX7_nextToken_115) FU t0 σ
def mX7_nextToken_63 (σ : St) : Option (Int32 × St) :=
  mX7_nextToken_68 1 σ
def mX7_nextToken (σ : St) : Option (Int32 × St) :=
  bd (mX7_skipBlanks σ) fun r1 s2 =>
    lt (s_up s2 68 3 (s2 68 2)) fun s4 =>
    lt (s_up s4 68 5 0) fun s5 =>
    bd (mX7_signAt (s5 68 2) s5) fun r6 s7 =>
    lt (s_up s7 68 4 r6) fun s9 =>
    if (s9 68 4) = 0 then
    (some (0, s9))
    else
    (lt (s_up s9 68 2 ((s9 68 2) + 1)) fun s10 =>
    if (s10 68 4) = 1 then
    (mX7_nextToken_63 s10)
    else
    (if (s10 68 4) = 2 then
    (mX7_nextToken_63 s10)
    else
    (mX7_nextToken_68 0 s10)))

def mX7_fail (σ : St) : Option (Int32 × St) :=
  if (σ 68 6) = (-1) then
    (lt (s_up σ 68 6 (σ 68 3)) fun s1 =>
    some (0, s1))
    else
    (some (0, σ))

def mX7_readNumber (v1 : Int32) (v2 : Int32) (σ : St) : Option (Int32 × St) :=
  if (σ 68 6) = (-1) then
    (bd (mX7_nextToken σ) fun r1 s2 =>
    if (s2 68 4) = 2 then
    (if (s2 68 5) < v1 then
    (bd (mX7_fail s2) fun r7 s8 =>
    some (0, s8))
    else
    (if v2 < (s2 68 5) then
    (bd (mX7_fail s2) fun r10 s11 =>
    some (0, s11))
    else
    (some ((s2 68 5), s2))))
    else
    (bd (mX7_fail s2) fun r4 s5 =>
    some (0, s5)))
    else
    (some (0, σ))

def mX7_readKind (σ : St) : Option (Int32 × St) :=
  if (σ 18 4) < 5 then
    (bd (mX7_readNumber 1 9 σ) fun r1 s2 =>
    bd (mX7_readNumber 1 99 s2) fun r4 s5 =>
    bd (mX7_readNumber 0 1 s5) fun r7 s8 =>
    if (s8 68 6) = (-1) then
    (bd (mX2_addKind 18 r1 r4 r7 s8) fun r10 s11 =>
    some (0, s11))
    else
    (some (0, s8)))
    else
    (bd (mX7_fail σ) fun r13 s14 =>
    some (0, s14))

def mX7_readClosing (σ : St) : Option (Int32 × St) :=
  if (σ 68 6) = (-1) then
    (bd (mX7_nextToken σ) fun r1 s2 =>
    if (s2 68 4) = 3 then
    (some (0, s2))
    else
    (bd (mX7_fail s2) fun r4 s5 =>
    some (0, s5)))
    else
    (some (0, σ))

def mX7_readFigure (σ : St) : Option (Int32 × St) :=
  if (σ 68 6) = (-1) then
    (bd (mX7_skipBlanks σ) fun r1 s2 =>
    lt (s_up s2 68 3 (s2 68 2)) fun s4 =>
    bd (mX7_signAt (s4 68 2) s4) fun r5 s6 =>
    if r5 = 2 then
    (lt (s_up s6 68 2 ((s6 68 2) + 1)) fun s8 =>
    gd (¬ s8 68 0 = 0) <|
    gd (ib (s8 68 3) 200) <|
    some (((s8 1 (nx (s8 68 3))) - 48), s8))
    else
    (bd (mX7_fail s6) fun r11 s12 =>
    some (0, s12)))
    else
    (some (0, σ))

def mX7_readGround_33 : Nat → Int32 → St → Option (Int32 × St)
  | 0, _, _ => none
  | n + 1, v4, σ => if v4 < (σ 18 2) then
    (bd (mX7_readFigure σ) fun r10 s11 =>
    gd (ib v4 30) <|
    lt (s_up s11 19 (nx v4) r10) fun s14 =>
    lt (v4 + 1) fun x15 =>
    mX7_readGround_33 n x15 s14)
    else
    (some (0, σ))
def mX7_readGround (σ : St) : Option (Int32 × St) :=
  bd (mX7_readNumber 1 6 σ) fun r1 s2 =>
    bd (mX7_readNumber 1 5 s2) fun r4 s5 =>
    if (s5 68 6) = (-1) then
    (bd (mX2_stretch 18 r1 r4 s5) fun r7 s8 =>
    mX7_readGround_33 FU 0 s8)
    else
    (some (0, s5))

def mX7_readKerb (σ : St) : Option (Int32 × St) :=
  bd (mX7_readNumber 0 ((σ 18 0) - 1) σ) fun r1 s2 =>
    bd (mX7_readNumber 0 ((s2 18 1) - 1) s2) fun r4 s5 =>
    bd (mX7_readNumber 0 3 s5) fun r7 s8 =>
    if (s8 68 6) = (-1) then
    (bd (mX2_cellAt 18 r1 r4 s8) fun r10 s11 =>
    bd (mX2_addKerb 18 r10 r7 s11) fun r13 s14 =>
    some (0, s14))
    else
    (some (0, s8))

def mX7_readGrating (σ : St) : Option (Int32 × St) :=
  if (σ 18 3) < 4 then
    (bd (mX7_readNumber 0 ((σ 18 0) - 1) σ) fun r1 s2 =>
    bd (mX7_readNumber 0 ((s2 18 1) - 1) s2) fun r4 s5 =>
    if (s5 68 6) = (-1) then
    (bd (mX2_cellAt 18 r1 r4 s5) fun r7 s8 =>
    gd (ib r7 30) <|
    if 0 < (s8 21 (nx r7)) then
    (bd (mX7_fail s8) fun r17 s18 =>
    some (0, s18))
    else
    (bd (mX7_readNumber 1 9 s8) fun r11 s12 =>
    if (s12 68 6) = (-1) then
    (gd (ib r7 30) <|
    lt (s_up s12 21 (nx r7) r11) fun s15 =>
    lt (s_up s15 18 3 ((s15 18 3) + 1)) fun s16 =>
    some (0, s16))
    else
    (some (0, s12))))
    else
    (some (0, s5)))
    else
    (bd (mX7_fail σ) fun r20 s21 =>
    some (0, s21))

def mX7_readItem_23 (t0 : Int32) (t1 : Int32) (σ : St) : Option (Int32 × St) :=
  if t1 = t0 then
    (if (σ 68 5) = 99 then
    (bd (mX7_readKind σ) fun r4 s5 =>
    bd (mX7_readClosing s5) fun r7 s8 =>
    some (0, s8))
    else if (σ 68 5) = 103 then
    (bd (mX7_readGround σ) fun r10 s11 =>
    bd (mX7_readClosing s11) fun r13 s14 =>
    some (0, s14))
    else if (σ 68 5) = 107 then
    (bd (mX7_readKerb σ) fun r16 s17 =>
    bd (mX7_readClosing s17) fun r19 s20 =>
    some (0, s20))
    else if (σ 68 5) = 111 then
    (bd (mX7_readGrating σ) fun r22 s23 =>
    bd (mX7_readClosing s23) fun r25 s26 =>
    some (0, s26))
    else 
    (bd (mX7_fail σ) fun r28 s29 =>
    bd (mX7_readClosing s29) fun r31 s32 =>
    some (0, s32)))
    else
    (bd (mX7_fail σ) fun r34 s35 =>
    some (0, s35))
def mX7_readItem (v2 : Int32) (σ : St) : Option (Int32 × St) :=
  if (σ 68 4) = 1 then
    (if (σ 68 5) = 103 then
    (mX7_readItem_23 1 v2 σ)
    else
    (mX7_readItem_23 0 v2 σ))
    else
    (bd (mX7_fail σ) fun r1 s2 =>
    some (0, s2))

def mX7_readText_80 (σ : St) : Option (Int32 × St) :=
  some (((-10) - (σ 68 6)), σ)
def mX7_readText_69 (k80 : St → Option (Int32 × St)) (rc : Int32 → Int32 → St → Option (Int32 × St)) (v4 : Int32) (v5 : Int32) (t0 : Int32) (σ : St) : Option (Int32 × St) :=
  bd (mX7_readItem t0 σ) fun r11 s12 =>
    if (s12 68 6) = (-1) then
    (lt (v4 + 1) fun x14 =>
    lt (v5 + 1) fun x15 =>
    rc x14 x15 s12)
    else
    (k80 s12)
def mX7_readText_35 (k80 : St → Option (Int32 × St)) : Nat → Int32 → Int32 → St → Option (Int32 × St)
  | 0, _, _, _ => none
  | n + 1, v4, v5, σ => if 200 < v5 then
    (some (v4, σ))
    else
    (bd (mX7_nextToken σ) fun r8 s9 =>
    if (s9 68 4) = 0 then
    (some (v4, s9))
    else
    (if v4 = 0 then
    (mX7_readText_69 k80 (mX7_readText_35 k80 n) v4 v5 1 s9)
    else
    (mX7_readText_69 k80 (mX7_readText_35 k80 n) v4 v5 0 s9)))
def mX7_readText (v2 : Int32) (σ : St) : Option (Int32 × St) :=
  lt (s_up σ 68 0 1) fun s1 =>
    lt (s_up s1 68 1 (i_min v2 200)) fun s2 =>
    lt (s_up s2 68 2 0) fun s3 =>
    lt (s_up s3 68 6 (-1)) fun s4 =>
    bd (mX2_wipe 18 s4) fun r5 s6 =>
    mX7_readText_35 (mX7_readText_80) FU 0 0 s6

def mX11_type (v1 : Int32) (σ : St) : Option (Int32 × St) :=
  if v1 < 0 then
    (some ((-1), σ))
    else
    (if 255 < v1 then
    (some ((-1), σ))
    else
    (if (σ 0 1) < 200 then
    (gd (ib (σ 0 1) 200) <|
    lt (s_up σ 1 (nx (σ 0 1)) (i_chr v1)) fun s2 =>
    lt (s_up s2 0 1 ((s2 0 1) + 1)) fun s3 =>
    some ((s3 0 1), s3))
    else
    (some ((-3), σ))))

def mX11_clear (σ : St) : Option (Int32 × St) :=
  lt (σ 0 1) fun x1 =>
    lt (s_up σ 0 1 0) fun s2 =>
    some (x1, s2)

def mX11_shutWays (v1 : Int32) (σ : St) : Option (Int32 × St) :=
  gd (ib v1 30) <|
    gd (ib v1 30) <|
    some (((σ 12 (nx v1)) ||| (σ 28 (nx v1))), σ)

def mX11_cell (v1 : Int32) (v2 : Int32) (v3 : Int32) (σ : St) : Option (Int32 × St) :=
  bd (mX2_cellAt 10 v1 v2 σ) fun r1 s2 =>
    if r1 = (-1) then
    (some ((-1), s2))
    else
    (if v3 = 0 then
    (gd (ib r1 30) <|
    some ((s2 27 (nx r1)), s2))
    else if v3 = 1 then
    (gd (ib r1 30) <|
    some ((s2 13 (nx r1)), s2))
    else if v3 = 2 then
    (gd (ib r1 30) <|
    some ((s2 29 (nx r1)), s2))
    else if v3 = 3 then
    (gd (ib r1 30) <|
    some ((s2 30 (nx r1)), s2))
    else if v3 = 4 then
    (gd (ib r1 30) <|
    some ((s2 31 (nx r1)), s2))
    else if v3 = 5 then
    (gd (ib r1 30) <|
    some ((s2 32 (nx r1)), s2))
    else if v3 = 6 then
    (bd (mX11_shutWays r1 s2) fun r10 s11 =>
    some (r10, s11))
    else 
    (some ((-1), s2)))

def mX11_isKind (v1 : Int32) (σ : St) : Option (Int32 × St) :=
  if v1 < 0 then
    (some (0, σ))
    else
    (if v1 < (σ 10 4) then
    (some (1, σ))
    else
    (some (0, σ)))

def mX11_kind (v1 : Int32) (v2 : Int32) (σ : St) : Option (Int32 × St) :=
  bd (mX11_isKind v1 σ) fun r1 s2 =>
    if r1 = 0 then
    (some ((-1), s2))
    else
    (if v2 = 0 then
    (gd (ib v1 5) <|
    some ((s2 15 (nx v1)), s2))
    else if v2 = 1 then
    (gd (ib v1 5) <|
    some ((s2 16 (nx v1)), s2))
    else if v2 = 2 then
    (gd (ib v1 5) <|
    some ((s2 17 (nx v1)), s2))
    else 
    (some ((-1), s2)))

def mX11_sumOf_4 (i : Nat) (ni : Nat) : Nat → Int32 → Int32 → St → Option (Int32 × St)
  | 0, _, _, _ => none
  | n + 1, v2, v3, σ => if v3 < (σ 10 2) then
    (if v3 < (Int32.ofNat ni) then
    (gd (ib v3 ni) <|
    lt (v2 + (σ i (nx v3))) fun x2 =>
    lt (v3 + 1) fun x3 =>
    mX11_sumOf_4 i ni n x2 x3 σ)
    else
    (some (v2, σ)))
    else
    (some (v2, σ))
def mX11_sumOf (i : Nat) (ni : Nat) (σ : St) : Option (Int32 × St) :=
  mX11_sumOf_4 i ni FU 0 0 σ

def mX11_endCode (σ : St) : Option (Int32 × St) :=
  bd (mX2_pairOf 10 (σ 59 0) σ) fun r1 s2 =>
    if (s2 59 1) = 0 then
    (some ((r1 + 0), s2))
    else
    (some ((r1 + 100), s2))

def mX11_lets (v1 : Int32) (v2 : Int32) (v3 : Int32) (σ : St) : Option (Int32 × St) :=
  bd (mX2_cellAt 10 v2 v3 σ) fun r1 s2 =>
    bd (mX11_isKind v1 s2) fun r4 s5 =>
    if r4 = 0 then
    (some ((-1), s5))
    else
    (if r1 = (-1) then
    (some ((-1), s5))
    else
    (bd (mX11_sumOf 29 30 s5) fun r7 s8 =>
    bd (mX11_sumOf 31 30 s8) fun r10 s11 =>
    if (r7 + r10) < 999 then
    (bd (mX8_goAs 59 v1 r1 s11) fun r13 s14 =>
    gd (ib v1 5) <|
    bd (mX3_letCome (s14 59 0) (s14 59 1) (s14 16 (nx v1)) s14) fun r17 s18 =>
    bd (mX11_endCode s18) fun r20 s21 =>
    some (r20, s21))
    else
    (some ((-2), s11))))

def mX11_isWay (v0 : Int32) (σ : St) : Option (Int32 × St) :=
  if v0 < 0 then
    (some (0, σ))
    else
    (if v0 < 4 then
    (some (1, σ))
    else
    (some (0, σ)))

def mX11_sets (v1 : Int32) (v2 : Int32) (v3 : Int32) (σ : St) : Option (Int32 × St) :=
  bd (mX2_cellAt 10 v1 v2 σ) fun r1 s2 =>
    if r1 = (-1) then
    (some ((-1), s2))
    else
    (bd (mX11_isWay v3 s2) fun r4 s5 =>
    if r4 = 0 then
    (some ((-1), s5))
    else
    (bd (mX11_shutWays r1 s5) fun r7 s8 =>
    if ((i_shr r7 v3) &&& 1) = 0 then
    (if (s8 26 0) < 8 then
    (bd (mX3_changePlank r1 v3 s8) fun r10 s11 =>
    some (r10, s11))
    else
    (some ((-3), s8)))
    else
    (some ((-2), s8))))

def mX11_takes (v1 : Int32) (v2 : Int32) (v3 : Int32) (σ : St) : Option (Int32 × St) :=
  bd (mX2_cellAt 10 v1 v2 σ) fun r1 s2 =>
    if r1 = (-1) then
    (some ((-1), s2))
    else
    (bd (mX11_isWay v3 s2) fun r4 s5 =>
    if r4 = 0 then
    (some ((-1), s5))
    else
    (gd (ib r1 30) <|
    if ((i_shr (s5 28 (nx r1)) v3) &&& 1) = 0 then
    (some ((-2), s5))
    else
    (bd (mX3_changePlank r1 v3 s5) fun r8 s9 =>
    some (r8, s9))))

def mX11_isHeight (v0 : Int32) (σ : St) : Option (Int32 × St) :=
  if v0 < 0 then
    (some (0, σ))
    else
    (if 9 < v0 then
    (some (0, σ))
    else
    (some (1, σ)))

def mX11_cobble_38 (v4 : Int32) (t0 : Int32) (σ : St) : Option (Int32 × St) :=
  gd (ib v4 30) <|
    bd (mX11_isHeight ((σ 27 (nx v4)) + t0) σ) fun r5 s6 =>
    if r5 = 0 then
    (some ((-2), s6))
    else
    (bd (mX3_moveCobble v4 t0 s6) fun r8 s9 =>
    some (r8, s9))
def mX11_cobble_28 (v3 : Int32) (v4 : Int32) (σ : St) : Option (Int32 × St) :=
  if v3 = 1 then
    (mX11_cobble_38 v4 1 σ)
    else
    (mX11_cobble_38 v4 (-1) σ)
def mX11_cobble (v1 : Int32) (v2 : Int32) (v3 : Int32) (σ : St) : Option (Int32 × St) :=
  bd (mX2_cellAt 10 v1 v2 σ) fun r1 s2 =>
    if r1 = (-1) then
    (some ((-1), s2))
    else
    (if v3 = 0 then
    (mX11_cobble_28 v3 r1 s2)
    else
    (if v3 = 1 then
    (mX11_cobble_28 v3 r1 s2)
    else
    (some ((-1), s2))))

def mX11_sweep (v1 : Int32) (v2 : Int32) (σ : St) : Option (Int32 × St) :=
  bd (mX2_cellAt 10 v1 v2 σ) fun r1 s2 =>
    if r1 = (-1) then
    (some ((-1), s2))
    else
    (gd (ib r1 30) <|
    if (s2 29 (nx r1)) = 0 then
    (some ((-2), s2))
    else
    (bd (mX3_sweepAway r1 s2) fun r5 s6 =>
    some (r5, s6)))

def mX11_undo (σ : St) : Option (Int32 × St) :=
  if (σ 26 1) < 1 then
    (some ((-2), σ))
    else
    (bd (mX3_takeBack σ) fun r1 s2 =>
    some (r1, s2))

def mX11_endsAt (v1 : Int32) (v2 : Int32) (v3 : Int32) (σ : St) : Option (Int32 × St) :=
  bd (mX8_goAs 59 v1 v2 σ) fun r1 s2 =>
    if (s2 59 0) = v3 then
    (some (1, s2))
    else
    (some (0, s2))

def mX11_allSeenIsSo_2 : Nat → Int32 → St → Option (Int32 × St)
  | 0, _, _ => none
  | n + 1, v1, σ => if v1 < (σ 0 15) then
    (gd (ib v1 6) <|
    gd (ib v1 6) <|
    gd (ib v1 6) <|
    bd (mX11_endsAt (σ 4 (nx v1)) (σ 5 (nx v1)) (σ 6 (nx v1)) σ) fun r4 s5 =>
    if r4 = 0 then
    (some (0, s5))
    else
    (lt (v1 + 1) fun x7 =>
    mX11_allSeenIsSo_2 n x7 s5))
    else
    (some (1, σ))
def mX11_allSeenIsSo (σ : St) : Option (Int32 × St) :=
  mX11_allSeenIsSo_2 FU 0 σ

def mX11_now (v1 : Int32) (σ : St) : Option (Int32 × St) :=
  if v1 = 0 then
    (bd (mX11_sumOf 29 30 σ) fun r1 s2 =>
    bd (mX11_sumOf 31 30 s2) fun r4 s5 =>
    some ((r1 + r4), s5))
    else if v1 = 1 then
    (bd (mX11_sumOf 29 30 σ) fun r7 s8 =>
    some (r7, s8))
    else if v1 = 2 then
    (bd (mX11_sumOf 30 30 σ) fun r10 s11 =>
    some (r10, s11))
    else if v1 = 3 then
    (bd (mX11_sumOf 31 30 σ) fun r13 s14 =>
    some (r13, s14))
    else if v1 = 4 then
    (bd (mX11_sumOf 32 30 σ) fun r16 s17 =>
    some (r16, s17))
    else if v1 = 5 then
    (some ((σ 26 0), σ))
    else if v1 = 6 then
    (bd (mX11_allSeenIsSo σ) fun r19 s20 =>
    if r19 = 0 then
    (some (0, s20))
    else
    (some (1, s20)))
    else 
    (some ((-1), σ))

def mX11_end (v1 : Int32) (v2 : Int32) (v3 : Int32) (v4 : Int32) (σ : St) : Option (Int32 × St) :=
  bd (mX2_cellAt 10 v2 v3 σ) fun r1 s2 =>
    bd (mX11_isKind v1 s2) fun r4 s5 =>
    if r4 = 0 then
    (some ((-1), s5))
    else
    (if r1 = (-1) then
    (some ((-1), s5))
    else
    (if v4 < 0 then
    (some ((-1), s5))
    else
    (if 2 < v4 then
    (some ((-1), s5))
    else
    (bd (mX8_goAs 59 v1 r1 s5) fun r7 s8 =>
    if v4 = 0 then
    (bd (mX11_endCode s8) fun r10 s11 =>
    some (r10, s11))
    else
    (if v4 = 1 then
    (some ((s8 59 2), s8))
    else
    (some ((s8 59 3), s8)))))))

def mX11_doorBits_35 (rc : Int32 → Int32 → Int32 → Int32 → St → Option (Int32 × St)) (v1 : Int32) (v2 : Int32) (v3 : Int32) (v4 : Int32) (σ : St) : Option (Int32 × St) :=
  lt (v4 + 1) fun x4 =>
    rc v1 v2 v3 x4 σ
def mX11_doorBits_5 : Nat → Int32 → Int32 → Int32 → Int32 → St → Option (Int32 × St)
  | 0, _, _, _, _, _ => none
  | n + 1, v1, v2, v3, v4, σ => if v4 < (σ 10 2) then
    (bd (mX11_endsAt v1 v4 v2 σ) fun r1 s2 =>
    if r1 = 0 then
    (mX11_doorBits_35 (mX11_doorBits_5 n) v1 v2 v3 v4 s2)
    else
    (lt (v3 ||| (i_shl 1 v4)) fun x5 =>
    mX11_doorBits_35 (mX11_doorBits_5 n) v1 v2 x5 v4 s2))
    else
    (some (v3, σ))
def mX11_doorBits (v1 : Int32) (v2 : Int32) (σ : St) : Option (Int32 × St) :=
  mX11_doorBits_5 FU v1 v2 0 0 σ

def mX11_doors (v1 : Int32) (v2 : Int32) (v3 : Int32) (σ : St) : Option (Int32 × St) :=
  bd (mX2_cellAt 10 v2 v3 σ) fun r1 s2 =>
    bd (mX11_isKind v1 s2) fun r4 s5 =>
    if r4 = 0 then
    (some ((-1), s5))
    else
    (if r1 = (-1) then
    (some ((-1), s5))
    else
    (bd (mX11_doorBits v1 r1 s5) fun r7 s8 =>
    some (r7, s8)))

def mX11_sideCode (v1 : Int32) (σ : St) : Option (Int32 × St) :=
  bd (mX2_pairOf 10 (v1 / 2) σ) fun r1 s2 =>
    some (((10 * r1) + (i_rem v1 2)), s2)

def mX11_planks (v1 : Int32) (v2 : Int32) (v3 : Int32) (v4 : Int32) (σ : St) : Option (Int32 × St) :=
  bd (mX2_cellOfPair 10 v2 σ) fun r1 s2 =>
    bd (mX2_cellOfPair 10 v3 s2) fun r4 s5 =>
    bd (mX11_isKind v1 s5) fun r7 s8 =>
    if r7 = 0 then
    (some ((-1), s8))
    else
    (if r1 = (-1) then
    (some ((-1), s8))
    else
    (if r4 = (-1) then
    (some ((-1), s8))
    else
    (if v4 < 0 then
    (some ((-1), s8))
    else
    (if 2 < v4 then
    (some ((-1), s8))
    else
    (bd (mX6_seek v1 r1 r4 s8) fun r10 s11 =>
    if (s11 61 0) = (-9) then
    (some ((s11 61 0), s11))
    else
    (if v4 = 0 then
    (some ((s11 61 0), s11))
    else
    (if (s11 61 0) < v4 then
    (some ((-5), s11))
    else
    (if v4 = 1 then
    (bd (mX11_sideCode (s11 61 1) s11) fun r16 s17 =>
    some (r16, s17))
    else
    (bd (mX11_sideCode (s11 61 2) s11) fun r13 s14 =>
    some (r13, s14))))))))))

def mJ6_bitCount (v0 : Int32) (σ : St) : Option (Int32 × St) :=
  lt (v0 - ((i_ushr v0 1) &&& 1431655765)) fun x1 =>
    lt ((x1 &&& 858993459) + ((i_ushr x1 2) &&& 858993459)) fun x2 =>
    lt ((x2 + (i_ushr x2 4)) &&& 252645135) fun x3 =>
    lt (x3 + (i_ushr x3 8)) fun x4 =>
    lt (x4 + (i_ushr x4 16)) fun x5 =>
    some ((x5 &&& 63), σ)

def mX11_doorsWithout (v1 : Int32) (v2 : Int32) (v3 : Int32) (σ : St) : Option (Int32 × St) :=
  gd (ib v3 30) <|
    gd (ib v3 30) <|
    lt (s_up σ 27 (nx v3) ((σ 27 (nx v3)) - 1)) fun s3 =>
    bd (mX11_doorBits v1 v2 s3) fun r4 s5 =>
    bd (mJ6_bitCount r4 s5) fun r7 s8 =>
    gd (ib v3 30) <|
    gd (ib v3 30) <|
    lt (s_up s8 27 (nx v3) ((s8 27 (nx v3)) + 1)) fun s12 =>
    some (r7, s12)

def mX11_paved_105 (v4 : Int32) (v6 : Int32) (v7 : Int32) (σ : St) : Option (Int32 × St) :=
  if v6 = (-1) then
    (some ((-9), σ))
    else
    (if v4 = 0 then
    (bd (mX2_pairOf 10 v6 σ) fun r7 s8 =>
    some (r7, s8))
    else
    (some (v7, σ)))
def mX11_paved_99 (k105 : Int32 → Int32 → Int32 → St → Option (Int32 × St)) (rc : Int32 → Int32 → Int32 → Int32 → Int32 → Int32 → St → Option (Int32 × St)) (v1 : Int32) (v4 : Int32) (v5 : Int32) (v6 : Int32) (v7 : Int32) (v8 : Int32) (σ : St) : Option (Int32 × St) :=
  lt (v8 + 1) fun x11 =>
    rc v1 v4 v5 v6 v7 x11 σ
def mX11_paved_48 (k105 : Int32 → Int32 → Int32 → St → Option (Int32 × St)) : Nat → Int32 → Int32 → Int32 → Int32 → Int32 → Int32 → St → Option (Int32 × St)
  | 0, _, _, _, _, _, _, _ => none
  | n + 1, v1, v4, v5, v6, v7, v8, σ => if v8 < (σ 10 2) then
    (gd (ib v8 30) <|
    if 0 < (σ 27 (nx v8)) then
    (bd (mX11_doorsWithout v1 v5 v8 σ) fun r12 s13 =>
    if v7 < r12 then
    (mX11_paved_99 k105 (mX11_paved_48 k105 n) v1 v4 v5 v8 r12 v8 s13)
    else
    (mX11_paved_99 k105 (mX11_paved_48 k105 n) v1 v4 v5 v6 v7 v8 s13))
    else
    (mX11_paved_99 k105 (mX11_paved_48 k105 n) v1 v4 v5 v6 v7 v8 σ))
    else
    (k105 v4 v6 v7 σ)
def mX11_paved_38 (v1 : Int32) (v4 : Int32) (v5 : Int32) (σ : St) : Option (Int32 × St) :=
  mX11_paved_48 (mX11_paved_105) FU v1 v4 v5 (-1) (-9) 0 σ
def mX11_paved (v1 : Int32) (v2 : Int32) (v3 : Int32) (v4 : Int32) (σ : St) : Option (Int32 × St) :=
  bd (mX2_cellAt 10 v2 v3 σ) fun r1 s2 =>
    bd (mX11_isKind v1 s2) fun r4 s5 =>
    if r4 = 0 then
    (some ((-1), s5))
    else
    (if r1 = (-1) then
    (some ((-1), s5))
    else
    (if v4 = 0 then
    (mX11_paved_38 v1 v4 r1 s5)
    else
    (if v4 = 1 then
    (mX11_paved_38 v1 v4 r1 s5)
    else
    (some ((-1), s5)))))

def mX11_rain_119 (v1 : Int32) (v2 : Int32) (v3 : Int32) (σ : St) : Option (Int32 × St) :=
  if v1 = 1 then
    (some (v3, σ))
    else
    (if v2 = (-1) then
    (some ((-9), σ))
    else
    (bd (mX2_pairOf 10 v2 σ) fun r4 s5 =>
    some (r4, s5)))
def mX11_rain_113 (k119 : Int32 → Int32 → Int32 → St → Option (Int32 × St)) (rc : Int32 → Int32 → Int32 → Int32 → St → Option (Int32 × St)) (v1 : Int32) (v2 : Int32) (v3 : Int32) (v4 : Int32) (σ : St) : Option (Int32 × St) :=
  lt (v4 + 1) fun x8 =>
    rc v1 v2 v3 x8 σ
def mX11_rain_79 (k119 : Int32 → Int32 → Int32 → St → Option (Int32 × St)) : Nat → Int32 → Int32 → Int32 → Int32 → St → Option (Int32 × St)
  | 0, _, _, _, _, _ => none
  | n + 1, v1, v2, v3, v4, σ => if v4 < (σ 10 2) then
    (gd (ib v4 30) <|
    if v3 < (σ 3 (nx v4)) then
    (gd (ib v4 30) <|
    lt (σ 3 (nx v4)) fun x10 =>
    mX11_rain_113 k119 (mX11_rain_79 k119 n) v1 v4 x10 v4 σ)
    else
    (mX11_rain_113 k119 (mX11_rain_79 k119 n) v1 v2 v3 v4 σ))
    else
    (k119 v1 v2 v3 σ)
def mX11_rain_72 (v1 : Int32) (σ : St) : Option (Int32 × St) :=
  mX11_rain_79 (mX11_rain_119) FU v1 (-1) 0 0 σ
def mX11_rain_21 (k72 : Int32 → St → Option (Int32 × St)) : Nat → Int32 → Int32 → St → Option (Int32 × St)
  | 0, _, _, _ => none
  | n + 1, v1, v2, σ => if v2 < (σ 10 2) then
    (bd (mX8_go 59 1 0 v2 σ) fun r11 s12 =>
    gd (ib (s12 59 0) 30) <|
    gd (ib (s12 59 0) 30) <|
    lt (s_up s12 3 (nx (s12 59 0)) ((s12 3 (nx (s12 59 0))) + 1)) fun s16 =>
    lt (v2 + 1) fun x17 =>
    mX11_rain_21 k72 n v1 x17 s16)
    else
    (k72 v1 σ)
def mX11_rain_11 (v1 : Int32) (σ : St) : Option (Int32 × St) :=
  bd (mJ7_fill 3 30 0 σ) fun r1 s2 =>
    mX11_rain_21 (mX11_rain_72) FU v1 0 s2
def mX11_rain (v1 : Int32) (σ : St) : Option (Int32 × St) :=
  if v1 = 0 then
    (mX11_rain_11 v1 σ)
    else
    (if v1 = 1 then
    (mX11_rain_11 v1 σ)
    else
    (some ((-1), σ)))

def mX11_sharedDivisor_21 (rc : Int32 → Int32 → Int32 → St → Option (Int32 × St)) (v0 : Int32) (v1 : Int32) (v2 : Int32) (σ : St) : Option (Int32 × St) :=
  lt (v2 + (-1)) fun x2 =>
    rc v0 v1 x2 σ
def mX11_sharedDivisor_2 : Nat → Int32 → Int32 → Int32 → St → Option (Int32 × St)
  | 0, _, _, _, _ => none
  | n + 1, v0, v1, v2, σ => if 1 < v2 then
    (gd (¬ v2 = 0) <|
    if (i_rem v0 v2) = 0 then
    (gd (¬ v2 = 0) <|
    if (i_rem v1 v2) = 0 then
    (some (v2, σ))
    else
    (mX11_sharedDivisor_21 (mX11_sharedDivisor_2 n) v0 v1 v2 σ))
    else
    (mX11_sharedDivisor_21 (mX11_sharedDivisor_2 n) v0 v1 v2 σ))
    else
    (some (1, σ))
def mX11_sharedDivisor (v0 : Int32) (v1 : Int32) (σ : St) : Option (Int32 × St) :=
  mX11_sharedDivisor_2 FU v0 v1 5 σ

def mX11_feet_134 (v4 : Int32) (v7 : Int32) (v8 : Int32) (σ : St) : Option (Int32 × St) :=
  bd (mX11_sharedDivisor v7 v8 σ) fun r13 s14 =>
    if v4 = 0 then
    (gd (¬ r13 = 0) <|
    some ((v7 / r13), s14))
    else
    (gd (¬ r13 = 0) <|
    some ((v8 / r13), s14))
def mX11_feet_128 (k134 : Int32 → Int32 → Int32 → St → Option (Int32 × St)) (rc : Int32 → Int32 → Int32 → Int32 → Int32 → Int32 → Int32 → St → Option (Int32 × St)) (v1 : Int32) (v4 : Int32) (v5 : Int32) (v6 : Int32) (v7 : Int32) (v8 : Int32) (v9 : Int32) (σ : St) : Option (Int32 × St) :=
  lt (v9 + 1) fun x21 =>
    rc v1 v4 v5 v6 v7 v8 x21 σ
def mX11_feet_125 (k134 : Int32 → Int32 → Int32 → St → Option (Int32 × St)) (rc : Int32 → Int32 → Int32 → Int32 → Int32 → Int32 → Int32 → St → Option (Int32 × St)) (v1 : Int32) (v4 : Int32) (v5 : Int32) (v6 : Int32) (v8 : Int32) (v9 : Int32) (t0 : Int32) (t1 : Int32) (σ : St) : Option (Int32 × St) :=
  lt (t1 + t0) fun x26 =>
    mX11_feet_128 k134 rc v1 v4 v5 v6 x26 v8 v9 σ
def mX11_feet_78 (k134 : Int32 → Int32 → Int32 → St → Option (Int32 × St)) : Nat → Int32 → Int32 → Int32 → Int32 → Int32 → Int32 → Int32 → St → Option (Int32 × St)
  | 0, _, _, _, _, _, _, _, _ => none
  | n + 1, v1, v4, v5, v6, v7, v8, v9, σ => if v9 < 4 then
    (bd (mX2_besideOf 10 v5 v9 σ) fun r18 s19 =>
    if r18 = (-1) then
    (mX11_feet_128 k134 (mX11_feet_78 k134 n) v1 v4 v5 v6 v7 v8 v9 s19)
    else
    (lt (v8 + 1) fun x22 =>
    bd (mX11_endsAt v1 r18 v6 s19) fun r23 s24 =>
    if r23 = 0 then
    (mX11_feet_125 k134 (mX11_feet_78 k134 n) v1 v4 v5 v6 x22 v9 0 v7 s24)
    else
    (mX11_feet_125 k134 (mX11_feet_78 k134 n) v1 v4 v5 v6 x22 v9 1 v7 s24)))
    else
    (k134 v4 v7 v8 σ)
def mX11_feet_70 (v1 : Int32) (v4 : Int32) (v5 : Int32) (v6 : Int32) (t0 : Int32) (σ : St) : Option (Int32 × St) :=
  mX11_feet_78 (mX11_feet_134) FU v1 v4 v5 v6 t0 1 0 σ
def mX11_feet_53 (v1 : Int32) (v4 : Int32) (v5 : Int32) (v6 : Int32) (σ : St) : Option (Int32 × St) :=
  bd (mX11_endsAt v1 v5 v6 σ) fun r10 s11 =>
    if r10 = 0 then
    (mX11_feet_70 v1 v4 v5 v6 0 s11)
    else
    (mX11_feet_70 v1 v4 v5 v6 1 s11)
def mX11_feet (v1 : Int32) (v2 : Int32) (v3 : Int32) (v4 : Int32) (σ : St) : Option (Int32 × St) :=
  bd (mX2_cellOfPair 10 v2 σ) fun r1 s2 =>
    bd (mX2_cellOfPair 10 v3 s2) fun r4 s5 =>
    bd (mX11_isKind v1 s5) fun r7 s8 =>
    if r7 = 0 then
    (some ((-1), s8))
    else
    (if r1 = (-1) then
    (some ((-1), s8))
    else
    (if r4 = (-1) then
    (some ((-1), s8))
    else
    (if v4 = 0 then
    (mX11_feet_53 v1 v4 r1 r4 s8)
    else
    (if v4 = 1 then
    (mX11_feet_53 v1 v4 r1 r4 s8)
    else
    (some ((-1), s8))))))

def mX11_endOf (v1 : Int32) (v2 : Int32) (σ : St) : Option (Int32 × St) :=
  bd (mX8_goAs 59 v1 v2 σ) fun r1 s2 =>
    bd (mX11_endCode s2) fun r4 s5 =>
    some (r4, s5)

def mX11_apartBits_41 (rc : Int32 → Int32 → Int32 → Int32 → St → Option (Int32 × St)) (v1 : Int32) (v2 : Int32) (v3 : Int32) (v4 : Int32) (σ : St) : Option (Int32 × St) :=
  lt (v4 + 1) fun x7 =>
    rc v1 v2 v3 x7 σ
def mX11_apartBits_5 : Nat → Int32 → Int32 → Int32 → Int32 → St → Option (Int32 × St)
  | 0, _, _, _, _, _ => none
  | n + 1, v1, v2, v3, v4, σ => if v4 < (σ 10 2) then
    (bd (mX11_endOf v1 v4 σ) fun r1 s2 =>
    bd (mX11_endOf v2 v4 s2) fun r4 s5 =>
    if r1 = r4 then
    (mX11_apartBits_41 (mX11_apartBits_5 n) v1 v2 v3 v4 s5)
    else
    (lt (v3 ||| (i_shl 1 v4)) fun x8 =>
    mX11_apartBits_41 (mX11_apartBits_5 n) v1 v2 x8 v4 s5))
    else
    (some (v3, σ))
def mX11_apartBits (v1 : Int32) (v2 : Int32) (σ : St) : Option (Int32 × St) :=
  mX11_apartBits_5 FU v1 v2 0 0 σ

def mX11_apart (v1 : Int32) (v2 : Int32) (σ : St) : Option (Int32 × St) :=
  bd (mX11_isKind v1 σ) fun r1 s2 =>
    if r1 = 0 then
    (some ((-1), s2))
    else
    (bd (mX11_isKind v2 s2) fun r4 s5 =>
    if r4 = 0 then
    (some ((-1), s5))
    else
    (if v1 = v2 then
    (some ((-1), s5))
    else
    (bd (mX11_apartBits v1 v2 s5) fun r7 s8 =>
    some (r7, s8))))

def mX11_partnerBelow_3 : Nat → Int32 → Int32 → Int32 → Int32 → St → Option (Int32 × St)
  | 0, _, _, _, _, _ => none
  | n + 1, v1, v2, v3, v4, σ => if v4 < v1 then
    (gd (ib v4 30) <|
    if (v2 ||| (σ 3 (nx v4))) = v3 then
    (some (v4, σ))
    else
    (lt (v4 + 1) fun x2 =>
    mX11_partnerBelow_3 n v1 v2 v3 x2 σ))
    else
    (some ((-1), σ))
def mX11_partnerBelow (v1 : Int32) (v2 : Int32) (v3 : Int32) (σ : St) : Option (Int32 × St) :=
  mX11_partnerBelow_3 FU v1 v2 v3 0 σ

def mX11_fewestTelling_70 (v2 : Int32) (v3 : Int32) (σ : St) : Option (Int32 × St) :=
  some (((i_shl 1 v2) ||| (i_shl 1 v3)), σ)
def mX11_fewestTelling_131 (v2 : Int32) (v3 : Int32) (v4 : Int32) (σ : St) : Option (Int32 × St) :=
  some ((((i_shl 1 v2) ||| (i_shl 1 v3)) ||| (i_shl 1 v4)), σ)
def mX11_fewestTelling_150 (k131 : Int32 → Int32 → Int32 → St → Option (Int32 × St)) (rc : Int32 → Int32 → St → Option (Int32 × St)) (v1 : Int32) (v2 : Int32) (σ : St) : Option (Int32 × St) :=
  lt (v2 + 1) fun x1 =>
    rc v1 x1 σ
def mX11_fewestTelling_99 (k131 : Int32 → Int32 → Int32 → St → Option (Int32 × St)) (k150 : Int32 → Int32 → St → Option (Int32 × St)) : Nat → Int32 → Int32 → Int32 → St → Option (Int32 × St)
  | 0, _, _, _, _ => none
  | n + 1, v1, v2, v3, σ => if v3 < v2 then
    (gd (ib v2 30) <|
    gd (ib v3 30) <|
    bd (mX11_partnerBelow v3 ((σ 3 (nx v2)) ||| (σ 3 (nx v3))) v1 σ) fun r4 s5 =>
    if r4 = (-1) then
    (lt (v3 + 1) fun x7 =>
    mX11_fewestTelling_99 k131 k150 n v1 v2 x7 s5)
    else
    (k131 v2 v3 r4 s5))
    else
    (k150 v1 v2 σ)
def mX11_fewestTelling_86 (k131 : Int32 → Int32 → Int32 → St → Option (Int32 × St)) : Nat → Int32 → Int32 → St → Option (Int32 × St)
  | 0, _, _, _ => none
  | n + 1, v1, v2, σ => if v2 < (σ 10 2) then
    (mX11_fewestTelling_99 k131 (mX11_fewestTelling_150 k131 (mX11_fewestTelling_86 k131 n)) FU v1 v2 1 σ)
    else
    (some ((-9), σ))
def mX11_fewestTelling_84 (v1 : Int32) (σ : St) : Option (Int32 × St) :=
  mX11_fewestTelling_86 (mX11_fewestTelling_131) FU v1 2 σ
def mX11_fewestTelling_41 (k70 : Int32 → Int32 → St → Option (Int32 × St)) (k84 : Int32 → St → Option (Int32 × St)) : Nat → Int32 → Int32 → St → Option (Int32 × St)
  | 0, _, _, _ => none
  | n + 1, v1, v2, σ => if v2 < (σ 10 2) then
    (gd (ib v2 30) <|
    bd (mX11_partnerBelow v2 (σ 3 (nx v2)) v1 σ) fun r9 s10 =>
    if r9 = (-1) then
    (lt (v2 + 1) fun x12 =>
    mX11_fewestTelling_41 k70 k84 n v1 x12 s10)
    else
    (k70 v2 r9 s10))
    else
    (k84 v1 σ)
def mX11_fewestTelling_39 (v1 : Int32) (σ : St) : Option (Int32 × St) :=
  mX11_fewestTelling_41 (mX11_fewestTelling_70) (mX11_fewestTelling_84) FU v1 1 σ
def mX11_fewestTelling_8 (k39 : Int32 → St → Option (Int32 × St)) : Nat → Int32 → Int32 → St → Option (Int32 × St)
  | 0, _, _, _ => none
  | n + 1, v1, v2, σ => if v2 < (σ 10 2) then
    (gd (ib v2 30) <|
    if (σ 3 (nx v2)) = v1 then
    (some ((i_shl 1 v2), σ))
    else
    (lt (v2 + 1) fun x14 =>
    mX11_fewestTelling_8 k39 n v1 x14 σ))
    else
    (k39 v1 σ)
def mX11_fewestTelling (v1 : Int32) (σ : St) : Option (Int32 × St) :=
  if v1 = 0 then
    (some (0, σ))
    else
    (mX11_fewestTelling_8 (mX11_fewestTelling_39) FU v1 0 σ)

def mX11_noteTold_31 (rc : Int32 → Int32 → Int32 → St → Option (Int32 × St)) (v1 : Int32) (v2 : Int32) (v3 : Int32) (σ : St) : Option (Int32 × St) :=
  lt (v3 + 1) fun x1 =>
    rc v1 v2 x1 σ
def mX11_noteTold_2 : Nat → Int32 → Int32 → Int32 → St → Option (Int32 × St)
  | 0, _, _, _, _ => none
  | n + 1, v1, v2, v3, σ => if v3 < (σ 10 2) then
    (if ((i_shr v1 v3) &&& 1) = 0 then
    (mX11_noteTold_31 (mX11_noteTold_2 n) v1 v2 v3 σ)
    else
    (gd (ib v3 30) <|
    gd (ib v3 30) <|
    lt (s_up σ 3 (nx v3) ((σ 3 (nx v3)) ||| v2)) fun s4 =>
    mX11_noteTold_31 (mX11_noteTold_2 n) v1 v2 v3 s4))
    else
    (some (0, σ))
def mX11_noteTold (v1 : Int32) (v2 : Int32) (σ : St) : Option (Int32 × St) :=
  mX11_noteTold_2 FU v1 v2 0 σ

def mX11_rolls_71 (rc : Int32 → Int32 → Int32 → St → Option (Int32 × St)) (v1 : Int32) (v2 : Int32) (v3 : Int32) (σ : St) : Option (Int32 × St) :=
  lt (v3 + 1) fun x8 =>
    rc v1 v2 x8 σ
def mX11_rolls_30 (k71 : Int32 → Int32 → Int32 → St → Option (Int32 × St)) : Nat → Int32 → Int32 → Int32 → Int32 → St → Option (Int32 × St)
  | 0, _, _, _, _, _ => none
  | n + 1, v1, v2, v3, v4, σ => if v4 < (σ 10 4) then
    (bd (mX11_apartBits v3 v4 σ) fun r9 s10 =>
    bd (mX11_noteTold r9 (i_shl 1 v2) s10) fun r12 s13 =>
    lt (v1 ||| (i_shl 1 v2)) fun x15 =>
    lt (v2 + 1) fun x16 =>
    lt (v4 + 1) fun x17 =>
    mX11_rolls_30 k71 n x15 x16 v3 x17 s13)
    else
    (k71 v1 v2 v3 σ)
def mX11_rolls_14 : Nat → Int32 → Int32 → Int32 → St → Option (Int32 × St)
  | 0, _, _, _, _ => none
  | n + 1, v1, v2, v3, σ => if v3 < (σ 10 4) then
    (lt (v3 + 1) fun x7 =>
    mX11_rolls_30 (mX11_rolls_71 (mX11_rolls_14 n)) FU v1 v2 v3 x7 σ)
    else
    (bd (mX11_fewestTelling v1 σ) fun r4 s5 =>
    some (r4, s5))
def mX11_rolls (σ : St) : Option (Int32 × St) :=
  bd (mJ7_fill 3 30 0 σ) fun r1 s2 =>
    mX11_rolls_14 FU 0 0 0 s2

def mX11_saw (v1 : Int32) (v2 : Int32) (v3 : Int32) (σ : St) : Option (Int32 × St) :=
  bd (mX2_cellOfPair 10 v2 σ) fun r1 s2 =>
    bd (mX2_cellOfPair 10 v3 s2) fun r4 s5 =>
    bd (mX11_isKind v1 s5) fun r7 s8 =>
    if r7 = 0 then
    (some ((-1), s8))
    else
    (if r1 = (-1) then
    (some ((-1), s8))
    else
    (if r4 = (-1) then
    (some ((-1), s8))
    else
    (if (s8 0 15) < 6 then
    (gd (ib (s8 0 15) 6) <|
    lt (s_up s8 4 (nx (s8 0 15)) v1) fun s11 =>
    gd (ib (s11 0 15) 6) <|
    lt (s_up s11 5 (nx (s11 0 15)) r1) fun s13 =>
    gd (ib (s13 0 15) 6) <|
    lt (s_up s13 6 (nx (s13 0 15)) r4) fun s15 =>
    lt (s_up s15 0 15 ((s15 0 15) + 1)) fun s16 =>
    some ((s16 0 15), s16))
    else
    (some ((-3), s8)))))

def mX11_forget (σ : St) : Option (Int32 × St) :=
  lt (σ 0 15) fun x1 =>
    lt (s_up σ 0 15 0) fun s2 =>
    some (x1, s2)

def mX11_isSoWithCobble (v1 : Int32) (v2 : Int32) (σ : St) : Option (Int32 × St) :=
  gd (ib v1 30) <|
    bd (mX11_isHeight ((σ 27 (nx v1)) + v2) σ) fun r2 s3 =>
    if r2 = 0 then
    (some (0, s3))
    else
    (gd (ib v1 30) <|
    gd (ib v1 30) <|
    lt (s_up s3 27 (nx v1) ((s3 27 (nx v1)) + v2)) fun s7 =>
    bd (mX11_allSeenIsSo s7) fun r8 s9 =>
    gd (ib v1 30) <|
    gd (ib v1 30) <|
    lt (s_up s9 27 (nx v1) ((s9 27 (nx v1)) - v2)) fun s13 =>
    gd (zb r8) <|
    some (r8, s13))

def mX11_moved_95 (v1 : Int32) (v2 : Int32) (v3 : Int32) (σ : St) : Option (Int32 × St) :=
  if v1 = 0 then
    (some (v2, σ))
    else
    (some (v3, σ))
def mX11_moved_89 (k95 : Int32 → Int32 → Int32 → St → Option (Int32 × St)) (rc : Int32 → Int32 → Int32 → Int32 → St → Option (Int32 × St)) (v1 : Int32) (v2 : Int32) (v3 : Int32) (v4 : Int32) (σ : St) : Option (Int32 × St) :=
  lt (v4 + 1) fun x1 =>
    rc v1 v2 v3 x1 σ
def mX11_moved_83 (k89 : Int32 → Int32 → Int32 → Int32 → St → Option (Int32 × St)) (rc : Int32 → Int32 → Int32 → Int32 → Int32 → St → Option (Int32 × St)) (v1 : Int32) (v2 : Int32) (v3 : Int32) (v4 : Int32) (v5 : Int32) (σ : St) : Option (Int32 × St) :=
  lt (v5 + 1) fun x5 =>
    rc v1 v2 v3 v4 x5 σ
def mX11_moved_80 (k89 : Int32 → Int32 → Int32 → Int32 → St → Option (Int32 × St)) (rc : Int32 → Int32 → Int32 → Int32 → Int32 → St → Option (Int32 × St)) (v1 : Int32) (v2 : Int32) (v3 : Int32) (v4 : Int32) (v5 : Int32) (σ : St) : Option (Int32 × St) :=
  lt (v2 + 1) fun x6 =>
    mX11_moved_83 k89 rc v1 x6 v3 v4 v5 σ
def mX11_moved_54 (k89 : Int32 → Int32 → Int32 → Int32 → St → Option (Int32 × St)) (rc : Int32 → Int32 → Int32 → Int32 → Int32 → St → Option (Int32 × St)) (v1 : Int32) (v2 : Int32) (v3 : Int32) (v4 : Int32) (v5 : Int32) (t0 : Int32) (t1 : Int32) (σ : St) : Option (Int32 × St) :=
  bd (mX11_isSoWithCobble t1 t0 σ) fun r2 s3 =>
    if r2 = 0 then
    (mX11_moved_83 k89 rc v1 v2 v3 v4 v5 s3)
    else
    (if v2 = 0 then
    (bd (mX2_pairOf 10 v4 s3) fun r7 s8 =>
    lt ((10 * r7) + v5) fun x10 =>
    mX11_moved_80 k89 rc v1 v2 x10 v4 v5 s8)
    else
    (mX11_moved_80 k89 rc v1 v2 v3 v4 v5 s3))
def mX11_moved_34 (k89 : Int32 → Int32 → Int32 → Int32 → St → Option (Int32 × St)) : Nat → Int32 → Int32 → Int32 → Int32 → Int32 → St → Option (Int32 × St)
  | 0, _, _, _, _, _, _ => none
  | n + 1, v1, v2, v3, v4, v5, σ => if 1 < v5 then
    (k89 v1 v2 v3 v4 σ)
    else
    (if v5 = 1 then
    (mX11_moved_54 k89 (mX11_moved_34 k89 n) v1 v2 v3 v4 v5 1 v4 σ)
    else
    (mX11_moved_54 k89 (mX11_moved_34 k89 n) v1 v2 v3 v4 v5 (-1) v4 σ))
def mX11_moved_19 (k95 : Int32 → Int32 → Int32 → St → Option (Int32 × St)) : Nat → Int32 → Int32 → Int32 → Int32 → St → Option (Int32 × St)
  | 0, _, _, _, _, _ => none
  | n + 1, v1, v2, v3, v4, σ => if v4 < (σ 10 2) then
    (mX11_moved_34 (mX11_moved_89 k95 (mX11_moved_19 k95 n)) FU v1 v2 v3 v4 0 σ)
    else
    (k95 v1 v2 v3 σ)
def mX11_moved_11 (v1 : Int32) (σ : St) : Option (Int32 × St) :=
  mX11_moved_19 (mX11_moved_95) FU v1 0 (-9) 0 σ
def mX11_moved (v1 : Int32) (σ : St) : Option (Int32 × St) :=
  if v1 = 0 then
    (mX11_moved_11 v1 σ)
    else
    (if v1 = 1 then
    (mX11_moved_11 v1 σ)
    else
    (some ((-1), σ)))

def mX11_isImage (v0 : Int32) (σ : St) : Option (Int32 × St) :=
  if v0 < 0 then
    (some (0, σ))
    else
    (if v0 < 2 then
    (some (1, σ))
    else
    (some (0, σ)))

def mX11_keep (v1 : Int32) (σ : St) : Option (Int32 × St) :=
  bd (mX11_isImage v1 σ) fun r1 s2 =>
    if r1 = 0 then
    (some ((-1), s2))
    else
    (if v1 = 0 then
    (bd (mX3_copyOf 37 26 s2) fun r4 s5 =>
    gd (ib v1 2) <|
    lt (s_up s5 2 (nx v1) 1) fun s8 =>
    bd (mX11_sumOf 29 30 s8) fun r9 s10 =>
    some (r9, s10))
    else if v1 = 1 then
    (bd (mX3_copyOf 48 26 s2) fun r12 s13 =>
    gd (ib v1 2) <|
    lt (s_up s13 2 (nx v1) 1) fun s16 =>
    bd (mX11_sumOf 29 30 s16) fun r17 s18 =>
    some (r17, s18))
    else 
    none)

def mX11_back (v1 : Int32) (σ : St) : Option (Int32 × St) :=
  bd (mX11_isImage v1 σ) fun r1 s2 =>
    if r1 = 0 then
    (some ((-1), s2))
    else
    (gd (ib v1 2) <|
    if (s2 2 (nx v1)) = 0 then
    (some ((-2), s2))
    else
    (if v1 = 0 then
    (bd (mX3_copyOf 26 37 s2) fun r5 s6 =>
    bd (mX11_sumOf 29 30 s6) fun r8 s9 =>
    some (r8, s9))
    else if v1 = 1 then
    (bd (mX3_copyOf 26 48 s2) fun r11 s12 =>
    bd (mX11_sumOf 29 30 s12) fun r14 s15 =>
    some (r14, s15))
    else 
    none))

def mX11_count (v1 : Int32) (σ : St) : Option (Int32 × St) :=
  if v1 = 0 then
    (some ((σ 10 0), σ))
    else if v1 = 1 then
    (some ((σ 10 1), σ))
    else if v1 = 2 then
    (some ((σ 10 3), σ))
    else if v1 = 3 then
    (some ((σ 10 4), σ))
    else if v1 = 4 then
    (some ((σ 0 15), σ))
    else if v1 = 5 then
    (some ((σ 26 1), σ))
    else if v1 = 6 then
    (some ((σ 0 1), σ))
    else 
    (some ((-1), σ))

def mX11_trace (σ : St) : Option (Int64 × St) :=
  some ((l_mk (σ 0 100) (σ 0 101)), σ)

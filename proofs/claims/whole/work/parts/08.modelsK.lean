/-! models of the kinds of cells, by program -/
def mX1_ask (v2 : Int32) (σ : St) : Option (Int32 × St) :=
  lt (s_upl σ 0 ((l_mk (σ 0 100) (σ 0 101)) + 1)) fun s1 =>
    gd (ib v2 30) <|
    some ((s1 27 (nx v2)), s1)

def mX9_ask (v2 : Int32) (σ : St) : Option (Int32 × St) :=
  lt (s_upl σ 0 ((l_mk (σ 0 100) (σ 0 101)) + 100)) fun s1 =>
    bd (mX1_ask v2 s1) fun r2 s3 =>
    gd (ib v2 30) <|
    some ((r2 - (s3 29 (nx v2))), s3)

def mX0_ask (v2 : Int32) (σ : St) : Option (Int32 × St) :=
  lt (s_upl σ 0 ((l_mk (σ 0 100) (σ 0 101)) + 10000)) fun s1 =>
    bd (mX9_ask v2 s1) fun r2 s3 =>
    gd (ib v2 30) <|
    some ((r2 + (s3 30 (nx v2))), s3)

def mX10_ask (v2 : Int32) (σ : St) : Option (Int32 × St) :=
  lt (s_upl σ 0 ((l_mk (σ 0 100) (σ 0 101)) + 10)) fun s1 =>
    bd (mX1_ask v2 s1) fun r2 s3 =>
    bd (mX11_shutWays v2 s3) fun r5 s6 =>
    bd (mJ6_bitCount r5 s6) fun r8 s9 =>
    some ((r2 + r8), s9)

def mX4_ask (v2 : Int32) (σ : St) : Option (Int32 × St) :=
  lt (s_upl σ 0 ((l_mk (σ 0 100) (σ 0 101)) + 1000)) fun s1 =>
    bd (mX10_ask v2 s1) fun r2 s3 =>
    some ((2 * r2), s3)

def mX5_ask (v2 : Int32) (σ : St) : Option (Int32 × St) :=
  lt (s_upl σ 0 ((l_mk (σ 0 100) (σ 0 101)) + 100000)) fun s1 =>
    bd (mX1_ask v2 s1) fun r2 s3 =>
    gd (ib v2 30) <|
    some ((r2 + (s3 13 (nx v2))), s3)

def mX11_mark (v1 : Int32) (v2 : Int32) (v3 : Int32) (σ : St) : Option (Int32 × St) :=
  bd (mX2_cellAt 10 v2 v3 σ) fun r1 s2 =>
    if v1 < 0 then
    (some ((-1000000), s2))
    else
    (if v1 < 6 then
    (if r1 = (-1) then
    (some ((-1000000), s2))
    else
    (if v1 = 0 then
    (bd (mX1_ask r1 s2) fun r4 s5 =>
    some (r4, s5))
    else if v1 = 1 then
    (bd (mX10_ask r1 s2) fun r7 s8 =>
    some (r7, s8))
    else if v1 = 2 then
    (bd (mX9_ask r1 s2) fun r10 s11 =>
    some (r10, s11))
    else if v1 = 3 then
    (bd (mX4_ask r1 s2) fun r13 s14 =>
    some (r13, s14))
    else if v1 = 4 then
    (bd (mX0_ask r1 s2) fun r16 s17 =>
    some (r16, s17))
    else if v1 = 5 then
    (bd (mX5_ask r1 s2) fun r19 s20 =>
    some (r19, s20))
    else 
    none))
    else
    (some ((-1000000), s2)))

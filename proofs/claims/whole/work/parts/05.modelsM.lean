/-! models of the reference, by program -/
def mX12_in (v0 : Int64) (v2 : Int64) (v4 : Int64) (σ : St) : Option (Int32 × St) :=
  if (lg_cmp v0 v2) < 0 then
    (some (0, σ))
    else
    (if 0 < (lg_cmp v0 v4) then
    (some (0, σ))
    else
    (some (1, σ)))

def mX12_has (v0 : Int32) (v1 : Int32) (σ : St) : Option (Int32 × St) :=
  if ((i_shr v0 v1) &&& 1) = 1 then
    (some (1, σ))
    else
    (some (0, σ))

def mX12_bits_4 : Nat → Int32 → Int32 → Int32 → St → Option (Int32 × St)
  | 0, _, _, _, _ => none
  | n + 1, v0, v1, v2, σ => if v2 < 30 then
    (lt (v1 + ((i_shr v0 v2) &&& 1)) fun x1 =>
    lt (v2 + 1) fun x2 =>
    mX12_bits_4 n v0 x1 x2 σ)
    else
    (some (v1, σ))
def mX12_bits (v0 : Int32) (σ : St) : Option (Int32 × St) :=
  mX12_bits_4 FU v0 0 0 σ

def mX12_type (v1 : Int32) (σ : St) : Option (Int32 × St) :=
  bd (mX12_in (Int32.toInt64 v1) 0 255 σ) fun r1 s2 =>
    if r1 = 0 then
    (some ((-1), s2))
    else
    (if (s2 0 3) = 200 then
    (some ((-3), s2))
    else
    (gd (ib (s2 0 3) 200) <|
    lt (s_up s2 3 (nx (s2 0 3)) v1) fun s5 =>
    lt (s_up s5 0 3 ((s5 0 3) + 1)) fun s6 =>
    some ((s6 0 3), s6)))

def mX12_clear (σ : St) : Option (Int32 × St) :=
  lt (σ 0 3) fun x1 =>
    lt (s_up σ 0 3 0) fun s2 =>
    some (x1, s2)

def mX12_sort_16 (v0 : Int32) (σ : St) : Option (Int32 × St) :=
  if v0 < 48 then
    (some (0, σ))
    else
    (if 57 < v0 then
    (some (0, σ))
    else
    (some (2, σ)))
def mX12_sort (v0 : Int32) (σ : St) : Option (Int32 × St) :=
  if v0 < 97 then
    (mX12_sort_16 v0 σ)
    else
    (if 122 < v0 then
    (mX12_sort_16 v0 σ)
    else
    (some (1, σ)))

def mX12_skip_0 : Nat → St → Option (Int32 × St)
  | 0, _ => none
  | n + 1, σ => if (σ 0 17) < (σ 0 3) then
    (gd (ib (σ 0 17) 200) <|
    if (σ 3 (nx (σ 0 17))) = 32 then
    (lt (s_up σ 0 17 ((σ 0 17) + 1)) fun s2 =>
    mX12_skip_0 n s2)
    else
    (some (0, σ)))
    else
    (some (0, σ))
def mX12_skip (σ : St) : Option (Int32 × St) :=
  mX12_skip_0 FU σ

def mX12_token_103 (σ : St) : Option (Int32 × St) :=
  lt (s_up σ 0 19 (σ 0 17)) fun s6 =>
    some (0, s6)
def mX12_token_37 (k103 : St → Option (Int32 × St)) : Nat → St → Option (Int32 × St)
  | 0, _ => none
  | n + 1, σ => if (σ 0 17) < (σ 0 3) then
    (gd (ib (σ 0 18) 200) <|
    bd (mX12_sort (σ 3 (nx (σ 0 18))) σ) fun r8 s9 =>
    if 0 < r8 then
    (gd (ib (s9 0 17) 200) <|
    bd (mX12_sort (s9 3 (nx (s9 0 17))) s9) fun r12 s13 =>
    gd (ib (s13 0 18) 200) <|
    bd (mX12_sort (s13 3 (nx (s13 0 18))) s13) fun r16 s17 =>
    if r12 = r16 then
    (lt (s_up s17 0 17 ((s17 0 17) + 1)) fun s19 =>
    mX12_token_37 k103 n s19)
    else
    (k103 s17))
    else
    (k103 s9))
    else
    (k103 σ)
def mX12_token_33 (t0 : Int32) (t1 : Int32) (σ : St) : Option (Int32 × St) :=
  lt (s_up σ 0 17 (t1 + t0)) fun s5 =>
    mX12_token_37 (mX12_token_103) FU s5
def mX12_token (σ : St) : Option (Int32 × St) :=
  bd (mX12_skip σ) fun r1 s2 =>
    lt (s_up s2 0 18 (s2 0 17)) fun s4 =>
    if (s4 0 17) < (s4 0 3) then
    (mX12_token_33 1 (s4 0 17) s4)
    else
    (mX12_token_33 0 (s4 0 17) s4)

def mX12_number_109 (v1 : Int32) (v2 : Int32) (v3 : Int32) (σ : St) : Option (Int32 × St) :=
  bd (mX12_in (Int32.toInt64 v3) (Int32.toInt64 v1) (Int32.toInt64 v2) σ) fun r6 s7 =>
    if r6 = 0 then
    (some ((-9), s7))
    else
    (some (v3, s7))
def mX12_number_78 (k109 : Int32 → Int32 → Int32 → St → Option (Int32 × St)) : Nat → Int32 → Int32 → Int32 → Int32 → St → Option (Int32 × St)
  | 0, _, _, _, _, _ => none
  | n + 1, v1, v2, v3, v4, σ => if v4 < (σ 0 19) then
    (gd (ib v4 200) <|
    lt (((10 * v3) + (σ 3 (nx v4))) - 48) fun x10 =>
    lt (v4 + 1) fun x11 =>
    mX12_number_78 k109 n v1 v2 x10 x11 σ)
    else
    (k109 v1 v2 v3 σ)
def mX12_number_70 (v1 : Int32) (v2 : Int32) (σ : St) : Option (Int32 × St) :=
  lt (σ 0 18) fun x5 =>
    mX12_number_78 (mX12_number_109) FU v1 v2 0 x5 σ
def mX12_number (v1 : Int32) (v2 : Int32) (σ : St) : Option (Int32 × St) :=
  if (σ 0 18) = (σ 0 3) then
    (some ((-9), σ))
    else
    (gd (ib (σ 0 18) 200) <|
    bd (mX12_sort (σ 3 (nx (σ 0 18))) σ) fun r2 s3 =>
    if r2 = 2 then
    (if 2 < ((s3 0 19) - (s3 0 18)) then
    (some ((-9), s3))
    else
    (if ((s3 0 19) - (s3 0 18)) = 2 then
    (gd (ib (s3 0 18) 200) <|
    if (s3 3 (nx (s3 0 18))) = 48 then
    (some ((-9), s3))
    else
    (mX12_number_70 v1 v2 s3))
    else
    (mX12_number_70 v1 v2 s3)))
    else
    (some ((-9), s3)))

def mX12_reads (v1 : Int32) (v2 : Int32) (v3 : Int32) (σ : St) : Option (Int32 × St) :=
  bd (mX12_number v2 v3 σ) fun r1 s2 =>
    gd (ib v1 3) <|
    lt (s_up s2 15 (nx v1) r1) fun s5 =>
    gd (ib v1 3) <|
    if (s5 15 (nx v1)) = (-9) then
    (some (0, s5))
    else
    (bd (mX12_token s5) fun r7 s8 =>
    some (1, s8))

def mX12_readsHeights_77 : Nat → Int32 → St → Option (Int32 × St)
  | 0, _, _ => none
  | n + 1, v1, σ => if v1 < ((σ 0 20) * (σ 0 21)) then
    (bd (mX12_skip σ) fun r23 s24 =>
    lt (s_up s24 0 18 (s24 0 17)) fun s26 =>
    if (s26 0 17) = (s26 0 3) then
    (some (0, s26))
    else
    (gd (ib (s26 0 17) 200) <|
    bd (mX12_sort (s26 3 (nx (s26 0 17))) s26) fun r28 s29 =>
    if r28 = 2 then
    (gd (ib (s29 0 17) 200) <|
    gd (ib v1 30) <|
    lt (s_up s29 11 (nx v1) ((s29 3 (nx (s29 0 17))) - 48)) fun s33 =>
    lt (s_up s33 0 17 ((s33 0 17) + 1)) fun s34 =>
    lt (v1 + 1) fun x35 =>
    mX12_readsHeights_77 n x35 s34)
    else
    (some (0, s29))))
    else
    (bd (mX12_token σ) fun r20 s21 =>
    some (1, s21))
def mX12_readsHeights (σ : St) : Option (Int32 × St) :=
  bd (mX12_number 1 6 σ) fun r1 s2 =>
    gd (ib 0 3) <|
    lt (s_up s2 15 (nx 0) r1) fun s5 =>
    gd (ib 0 3) <|
    if (s5 15 (nx 0)) = (-9) then
    (some (0, s5))
    else
    (bd (mX12_token s5) fun r7 s8 =>
    bd (mX12_number 1 5 s8) fun r10 s11 =>
    gd (ib 1 3) <|
    lt (s_up s11 15 (nx 1) r10) fun s14 =>
    gd (ib 1 3) <|
    if (s14 15 (nx 1)) = (-9) then
    (some (0, s14))
    else
    (gd (ib 0 3) <|
    lt (s_up s14 0 20 (s14 15 (nx 0))) fun s17 =>
    gd (ib 1 3) <|
    lt (s_up s17 0 21 (s17 15 (nx 1))) fun s19 =>
    mX12_readsHeights_77 FU 0 s19))

def mX12_readBit (σ : St) : Option (Int32 × St) :=
  gd (ib 1 3) <|
    gd (ib 0 3) <|
    some ((((σ 0 20) * (σ 15 (nx 1))) + (σ 15 (nx 0))), σ)

def mX12_readsCell (σ : St) : Option (Int32 × St) :=
  bd (mX12_reads 0 0 ((σ 0 20) - 1) σ) fun r1 s2 =>
    gd (zb r1) <|
    some (r1, s2)

def mX12_readsKerb_108 (v1 : Int32) (v2 : Int32) (t0 : Int32) (σ : St) : Option (Int32 × St) :=
  gd (ib t0 2) <|
    gd (ib t0 2) <|
    lt (s_up σ 12 (nx t0) ((σ 12 (nx t0)) ||| (i_shl 1 (((σ 0 20) * v2) + v1)))) fun s19 =>
    some (1, s19)
def mX12_readsKerb_77 (v1 : Int32) (t0 : Int32) (t1 : Int32) (σ : St) : Option (Int32 × St) :=
  lt (t1 - t0) fun x15 =>
    if v1 < 0 then
    (some (1, σ))
    else
    (if x15 < 0 then
    (some (1, σ))
    else
    (gd (ib 2 3) <|
    if (i_rem (σ 15 (nx 2)) 2) = 1 then
    (mX12_readsKerb_108 v1 x15 0 σ)
    else
    (mX12_readsKerb_108 v1 x15 1 σ)))
def mX12_readsKerb_55 (t0 : Int32) (t1 : Int32) (σ : St) : Option (Int32 × St) :=
  lt (t1 - t0) fun x12 =>
    gd (ib 1 3) <|
    gd (ib 2 3) <|
    if (σ 15 (nx 2)) = 0 then
    (mX12_readsKerb_77 x12 1 (σ 15 (nx 1)) σ)
    else
    (mX12_readsKerb_77 x12 0 (σ 15 (nx 1)) σ)
def mX12_readsKerb (σ : St) : Option (Int32 × St) :=
  bd (mX12_readsCell σ) fun r1 s2 =>
    if r1 = 0 then
    (some (0, s2))
    else
    (bd (mX12_reads 1 0 ((s2 0 21) - 1) s2) fun r4 s5 =>
    if r4 = 0 then
    (some (0, s5))
    else
    (bd (mX12_reads 2 0 3 s5) fun r7 s8 =>
    if r7 = 0 then
    (some (0, s8))
    else
    (gd (ib 0 3) <|
    gd (ib 2 3) <|
    if (s8 15 (nx 2)) = 3 then
    (mX12_readsKerb_55 1 (s8 15 (nx 0)) s8)
    else
    (mX12_readsKerb_55 0 (s8 15 (nx 0)) s8))))

def mX12_readsGrating (σ : St) : Option (Int32 × St) :=
  bd (mX12_readsCell σ) fun r1 s2 =>
    if r1 = 0 then
    (some (0, s2))
    else
    (bd (mX12_number 0 ((s2 0 21) - 1) s2) fun r4 s5 =>
    gd (ib 1 3) <|
    lt (s_up s5 15 (nx 1) r4) fun s8 =>
    gd (ib 1 3) <|
    if (s8 15 (nx 1)) = (-9) then
    (some (0, s8))
    else
    (bd (mX12_readBit s8) fun r10 s11 =>
    gd (ib r10 30) <|
    if 0 < (s11 13 (nx r10)) then
    (some (0, s11))
    else
    (bd (mX12_token s11) fun r14 s15 =>
    bd (mX12_reads 2 1 9 s15) fun r17 s18 =>
    if r17 = 0 then
    (some (0, s18))
    else
    (bd (mX12_readBit s18) fun r20 s21 =>
    gd (ib 2 3) <|
    gd (ib r20 30) <|
    lt (s_up s21 13 (nx r20) (s21 15 (nx 2))) fun s25 =>
    lt (s_up s25 0 25 ((s25 0 25) + 1)) fun s26 =>
    some (1, s26)))))

def mX12_readsKind_66 (σ : St) : Option (Int32 × St) :=
  lt (s_up σ 0 26 ((σ 0 26) + 1)) fun s10 =>
    some (1, s10)
def mX12_readsKind_36 (k66 : St → Option (Int32 × St)) : Nat → Int32 → St → Option (Int32 × St)
  | 0, _, _ => none
  | n + 1, v1, σ => if v1 < 3 then
    (gd (ib v1 3) <|
    gd (ib ((3 * (σ 0 26)) + v1) 15) <|
    lt (s_up σ 14 (nx ((3 * (σ 0 26)) + v1)) (σ 15 (nx v1))) fun s13 =>
    lt (v1 + 1) fun x14 =>
    mX12_readsKind_36 k66 n x14 s13)
    else
    (k66 σ)
def mX12_readsKind (σ : St) : Option (Int32 × St) :=
  bd (mX12_reads 0 1 9 σ) fun r1 s2 =>
    if r1 = 0 then
    (some (0, s2))
    else
    (bd (mX12_reads 1 1 99 s2) fun r4 s5 =>
    if r4 = 0 then
    (some (0, s5))
    else
    (bd (mX12_reads 2 0 1 s5) fun r7 s8 =>
    if r7 = 0 then
    (some (0, s8))
    else
    (mX12_readsKind_36 (mX12_readsKind_66) FU 0 s8)))

def mX12_readsItem_141 (t0 : Int32) (σ : St) : Option (Int32 × St) :=
  if t0 = 0 then
    (some (0, σ))
    else
    (if (σ 0 18) = (σ 0 3) then
    (some (0, σ))
    else
    (gd (ib (σ 0 18) 200) <|
    if (σ 3 (nx (σ 0 18))) = 59 then
    (bd (mX12_token σ) fun r8 s9 =>
    lt (s_up s9 0 28 ((s9 0 28) + 1)) fun s11 =>
    some (1, s11))
    else
    (some (0, σ))))
def mX12_readsItem_87 (v1 : Int32) (t0 : Int32) (σ : St) : Option (Int32 × St) :=
  if t0 = 0 then
    (some (0, σ))
    else
    (bd (mX12_token σ) fun r1 s2 =>
    if v1 = 103 then
    (bd (mX12_readsHeights s2) fun r18 s19 =>
    mX12_readsItem_141 r18 s19)
    else
    (if v1 = 107 then
    (bd (mX12_readsKerb s2) fun r15 s16 =>
    mX12_readsItem_141 r15 s16)
    else
    (if v1 = 111 then
    (bd (mX12_readsGrating s2) fun r12 s13 =>
    mX12_readsItem_141 r12 s13)
    else
    (bd (mX12_readsKind s2) fun r4 s5 =>
    mX12_readsItem_141 r4 s5))))
def mX12_readsItem_82 (v1 : Int32) (σ : St) : Option (Int32 × St) :=
  mX12_readsItem_87 v1 1 σ
def mX12_readsItem_86 (v1 : Int32) (σ : St) : Option (Int32 × St) :=
  mX12_readsItem_87 v1 0 σ
def mX12_readsItem_68 (v1 : Int32) (σ : St) : Option (Int32 × St) :=
  if v1 = 99 then
    (if (σ 0 26) < 5 then
    (mX12_readsItem_82 v1 σ)
    else
    (mX12_readsItem_86 v1 σ))
    else
    (mX12_readsItem_86 v1 σ)
def mX12_readsItem_26 (t0 : Int32) (σ : St) : Option (Int32 × St) :=
  if (σ 0 28) = 0 then
    (if t0 = 103 then
    (mX12_readsItem_87 t0 1 σ)
    else
    (mX12_readsItem_87 t0 0 σ))
    else
    (if t0 = 107 then
    (mX12_readsItem_82 t0 σ)
    else
    (if t0 = 111 then
    (if (σ 0 25) < 4 then
    (mX12_readsItem_82 t0 σ)
    else
    (mX12_readsItem_68 t0 σ))
    else
    (mX12_readsItem_68 t0 σ)))
def mX12_readsItem (σ : St) : Option (Int32 × St) :=
  if ((σ 0 19) - (σ 0 18)) = 1 then
    (gd (ib (σ 0 18) 200) <|
    mX12_readsItem_26 (σ 3 (nx (σ 0 18))) σ)
    else
    (mX12_readsItem_26 0 σ)

def mX12_fault_94 (v1 : Int32) (σ : St) : Option (Int32 × St) :=
  if v1 = 0 then
    (some ((σ 0 18), σ))
    else
    (some ((-9), σ))
def mX12_fault_71 (k94 : Int32 → St → Option (Int32 × St)) : Nat → Int32 → St → Option (Int32 × St)
  | 0, _, _ => none
  | n + 1, v1, σ => if v1 = 0 then
    (k94 v1 σ)
    else
    (if (σ 0 18) < (σ 0 3) then
    (bd (mX12_readsItem σ) fun r14 s15 =>
    mX12_fault_71 k94 n r14 s15)
    else
    (k94 v1 σ))
def mX12_fault_65 (σ : St) : Option (Int32 × St) :=
  bd (mX12_token σ) fun r11 s12 =>
    mX12_fault_71 (mX12_fault_94) FU 1 s12
def mX12_fault_46 (k65 : St → Option (Int32 × St)) : Nat → Int32 → St → Option (Int32 × St)
  | 0, _, _ => none
  | n + 1, v1, σ => if v1 < 30 then
    (gd (ib v1 30) <|
    lt (s_up σ 13 (nx v1) 0) fun s18 =>
    lt (v1 + 1) fun x19 =>
    mX12_fault_46 k65 n x19 s18)
    else
    (k65 σ)
def mX12_fault (σ : St) : Option (Int32 × St) :=
  lt (s_up σ 0 17 0) fun s1 =>
    lt (s_up s1 0 28 0) fun s2 =>
    lt (s_up s2 0 20 0) fun s3 =>
    lt (s_up s3 0 21 0) fun s4 =>
    lt (s_up s4 0 25 0) fun s5 =>
    lt (s_up s5 0 26 0) fun s6 =>
    gd (ib 0 2) <|
    lt (s_up s6 12 (nx 0) 0) fun s8 =>
    gd (ib 1 2) <|
    lt (s_up s8 12 (nx 1) 0) fun s10 =>
    mX12_fault_46 (mX12_fault_65) FU 0 s10

def mX12_city_234 (σ : St) : Option (Int32 × St) :=
  gd (ib 0 2) <|
    lt (s_up σ 2 (nx 0) 0) fun s15 =>
    gd (ib 1 2) <|
    lt (s_up s15 2 (nx 1) 0) fun s17 =>
    lt (s_up s17 0 15 0) fun s18 =>
    lt (s_up s18 0 3 0) fun s19 =>
    some ((s19 0 28), s19)
def mX12_city_227 (k234 : St → Option (Int32 × St)) (rc : Int32 → St → Option (Int32 × St)) (v2 : Int32) (t0 : Int32) (t1 : Int32) (σ : St) : Option (Int32 × St) :=
  gd (ib t1 5019) <|
    lt (s_up σ 1 (nx t1) t0) fun s24 =>
    lt (v2 + 1) fun x25 =>
    rc x25 s24
def mX12_city_191 (k234 : St → Option (Int32 × St)) : Nat → Int32 → St → Option (Int32 × St)
  | 0, _, _ => none
  | n + 1, v2, σ => if v2 < 1673 then
    (bd (mX12_in (Int32.toInt64 v2) 1 30 σ) fun r20 s21 =>
    if r20 = 0 then
    (mX12_city_227 k234 (mX12_city_191 k234 n) v2 0 v2 s21)
    else
    (gd (ib (v2 - 1) 30) <|
    mX12_city_227 k234 (mX12_city_191 k234 n) v2 (s21 4 (nx (v2 - 1))) v2 s21))
    else
    (k234 σ)
def mX12_city_189 (σ : St) : Option (Int32 × St) :=
  mX12_city_191 (mX12_city_234) FU 0 σ
def mX12_city_129 (k189 : St → Option (Int32 × St)) : Nat → Int32 → St → Option (Int32 × St)
  | 0, _, _ => none
  | n + 1, v2, σ => if v2 < (σ 0 10) then
    (gd (ib (3 * v2) 15) <|
    gd (ib v2 5) <|
    lt (s_up σ 7 (nx v2) (σ 14 (nx (3 * v2)))) fun s29 =>
    gd (ib ((3 * v2) + 1) 15) <|
    gd (ib v2 5) <|
    lt (s_up s29 8 (nx v2) (s29 14 (nx ((3 * v2) + 1)))) fun s32 =>
    gd (ib ((3 * v2) + 2) 15) <|
    gd (ib v2 5) <|
    lt (s_up s32 9 (nx v2) (s32 14 (nx ((3 * v2) + 2)))) fun s35 =>
    lt (v2 + 1) fun x36 =>
    mX12_city_129 k189 n x36 s35)
    else
    (k189 σ)
def mX12_city_127 (σ : St) : Option (Int32 × St) :=
  mX12_city_129 (mX12_city_189) FU 0 σ
def mX12_city_108 (k127 : St → Option (Int32 × St)) (rc : Int32 → St → Option (Int32 × St)) (v2 : Int32) (t0 : Int32) (t1 : Int32) (σ : St) : Option (Int32 × St) :=
  gd (ib t1 30) <|
    lt (s_up σ 4 (nx t1) t0) fun s38 =>
    gd (ib v2 30) <|
    gd (ib v2 30) <|
    lt (s_up s38 5 (nx v2) (s38 13 (nx v2))) fun s41 =>
    lt (v2 + 1) fun x42 =>
    rc x42 s41
def mX12_city_74 (k127 : St → Option (Int32 × St)) : Nat → Int32 → St → Option (Int32 × St)
  | 0, _, _ => none
  | n + 1, v2, σ => if v2 < 30 then
    (if v2 < ((σ 0 4) * (σ 0 5)) then
    (gd (ib v2 30) <|
    mX12_city_108 k127 (mX12_city_74 k127 n) v2 (σ 11 (nx v2)) v2 σ)
    else
    (mX12_city_108 k127 (mX12_city_74 k127 n) v2 0 v2 σ))
    else
    (k127 σ)
def mX12_city (σ : St) : Option (Int32 × St) :=
  bd (mX12_fault σ) fun r1 s2 =>
    if r1 = (-9) then
    (lt (s_up s2 0 4 (s2 0 20)) fun s4 =>
    lt (s_up s4 0 5 (s4 0 21)) fun s5 =>
    lt (s_up s5 0 10 (s5 0 26)) fun s6 =>
    lt (s_up s6 0 8 (s6 0 25)) fun s7 =>
    gd (ib 0 2) <|
    gd (ib 0 2) <|
    lt (s_up s7 6 (nx 0) (s7 12 (nx 0))) fun s10 =>
    gd (ib 1 2) <|
    gd (ib 1 2) <|
    lt (s_up s10 6 (nx 1) (s10 12 (nx 1))) fun s13 =>
    mX12_city_74 (mX12_city_127) FU 0 s13)
    else
    (some (((-10) - r1), s2))

def mX12_isCell (v1 : Int32) (v2 : Int32) (σ : St) : Option (Int32 × St) :=
  bd (mX12_in (Int32.toInt64 v1) 0 (Int32.toInt64 ((σ 0 4) - 1)) σ) fun r1 s2 =>
    if r1 = 0 then
    (some (0, s2))
    else
    (bd (mX12_in (Int32.toInt64 v2) 0 (Int32.toInt64 ((s2 0 5) - 1)) s2) fun r4 s5 =>
    if r4 = 0 then
    (some (0, s5))
    else
    (some (1, s5)))

def mX12_bit (v1 : Int32) (v2 : Int32) (σ : St) : Option (Int32 × St) :=
  some ((((σ 0 4) * v2) + v1), σ)

def mX12_cells (σ : St) : Option (Int32 × St) :=
  some (((σ 0 4) * (σ 0 5)), σ)

def mX12_pairOf (v1 : Int32) (σ : St) : Option (Int32 × St) :=
  gd (¬ (σ 0 4) = 0) <|
    gd (¬ (σ 0 4) = 0) <|
    some (((10 * (i_rem v1 (σ 0 4))) + (v1 / (σ 0 4))), σ)

def mX12_isPair (v1 : Int32) (σ : St) : Option (Int32 × St) :=
  if v1 < 0 then
    (some (0, σ))
    else
    (bd (mX12_isCell (v1 / 10) (i_rem v1 10) σ) fun r1 s2 =>
    if r1 = 0 then
    (some (0, s2))
    else
    (some (1, s2)))

def mX12_bitOf (v1 : Int32) (σ : St) : Option (Int32 × St) :=
  bd (mX12_bit (v1 / 10) (i_rem v1 10) σ) fun r1 s2 =>
    some (r1, s2)

def mX12_isKind (v1 : Int32) (σ : St) : Option (Int32 × St) :=
  bd (mX12_in (Int32.toInt64 v1) 0 (Int32.toInt64 ((σ 0 10) - 1)) σ) fun r1 s2 =>
    gd (zb r1) <|
    some (r1, s2)

def mX12_isPlank (v1 : Int32) (σ : St) : Option (Int32 × St) :=
  gd (ib (31 + (v1 / 2)) 5019) <|
    if ((i_shr (σ 1 (nx (31 + (v1 / 2)))) (20 + (i_rem v1 2))) &&& 1) = 1 then
    (some (1, σ))
    else
    (some (0, σ))

def mX12_setPlank (v1 : Int32) (σ : St) : Option (Int32 × St) :=
  gd (ib (31 + (v1 / 2)) 5019) <|
    gd (ib (31 + (v1 / 2)) 5019) <|
    lt (s_up σ 1 (nx (31 + (v1 / 2))) ((σ 1 (nx (31 + (v1 / 2)))) ^^^ (i_shl 1 (20 + (i_rem v1 2))))) fun s3 =>
    some (0, s3)

def mX12_liesOn (v1 : Int32) (σ : St) : Option (Int32 × St) :=
  gd (ib (31 + v1) 5019) <|
    some (((σ 1 (nx (31 + v1))) &&& 1048575), σ)

def mX12_isEdge (v1 : Int32) (v2 : Int32) (σ : St) : Option (Int32 × St) :=
  gd (¬ (σ 0 4) = 0) <|
    lt (i_rem v1 (σ 0 4)) fun x2 =>
    gd (¬ (σ 0 4) = 0) <|
    lt (v1 / (σ 0 4)) fun x4 =>
    if v2 = 0 then
    (if x4 = 0 then
    (some (1, σ))
    else
    (some (0, σ)))
    else
    (if v2 = 1 then
    (if x2 = ((σ 0 4) - 1) then
    (some (1, σ))
    else
    (some (0, σ)))
    else
    (if v2 = 2 then
    (if x4 = ((σ 0 5) - 1) then
    (some (1, σ))
    else
    (some (0, σ)))
    else
    (if x2 = 0 then
    (some (1, σ))
    else
    (some (0, σ)))))

def mX12_beside (v1 : Int32) (v2 : Int32) (σ : St) : Option (Int32 × St) :=
  if v2 = 0 then
    (some ((v1 - (σ 0 4)), σ))
    else
    (if v2 = 1 then
    (some ((v1 + 1), σ))
    else
    (if v2 = 2 then
    (some ((v1 + (σ 0 4)), σ))
    else
    (some ((v1 - 1), σ))))

def mX12_sideOf (v1 : Int32) (v2 : Int32) (σ : St) : Option (Int32 × St) :=
  if v2 = 1 then
    (some ((2 * v1), σ))
    else
    (if v2 = 2 then
    (some (((2 * v1) + 1), σ))
    else
    (if v2 = 3 then
    (some ((2 * (v1 - 1)), σ))
    else
    (some (((2 * (v1 - (σ 0 4))) + 1), σ))))

def mX12_isKerb (v1 : Int32) (σ : St) : Option (Int32 × St) :=
  gd (ib (i_rem v1 2) 2) <|
    bd (mX12_has (σ 6 (nx (i_rem v1 2))) (v1 / 2) σ) fun r2 s3 =>
    gd (zb r2) <|
    some (r2, s3)

def mX12_isShut (v1 : Int32) (v2 : Int32) (σ : St) : Option (Int32 × St) :=
  bd (mX12_isEdge v1 v2 σ) fun r1 s2 =>
    if r1 = 0 then
    (bd (mX12_sideOf v1 v2 s2) fun r4 s5 =>
    bd (mX12_isKerb r4 s5) fun r7 s8 =>
    if r7 = 0 then
    (bd (mX12_isPlank r4 s8) fun r10 s11 =>
    if r10 = 0 then
    (if r4 = (s11 0 30) then
    (some (1, s11))
    else
    (if r4 = (s11 0 31) then
    (some (1, s11))
    else
    (some (0, s11))))
    else
    (some (1, s11)))
    else
    (some (1, s8)))
    else
    (some (1, s2))

def mX12_shutWays_26 (rc : Int32 → Int32 → Int32 → St → Option (Int32 × St)) (v1 : Int32) (v3 : Int32) (t0 : Int32) (t1 : Int32) (σ : St) : Option (Int32 × St) :=
  lt (t1 ||| t0) fun x4 =>
    lt (v3 + 1) fun x5 =>
    rc v1 x4 x5 σ
def mX12_shutWays_4 : Nat → Int32 → Int32 → Int32 → St → Option (Int32 × St)
  | 0, _, _, _, _ => none
  | n + 1, v1, v2, v3, σ => if v3 < 4 then
    (bd (mX12_isShut v1 v3 σ) fun r1 s2 =>
    if r1 = 0 then
    (mX12_shutWays_26 (mX12_shutWays_4 n) v1 v3 0 v2 s2)
    else
    (mX12_shutWays_26 (mX12_shutWays_4 n) v1 v3 (i_shl 1 v3) v2 s2))
    else
    (some (v2, σ))
def mX12_shutWays (v1 : Int32) (σ : St) : Option (Int32 × St) :=
  mX12_shutWays_4 FU v1 0 0 σ

def mX12_wayFrom_130 (rc : Int32 → Int32 → Int32 → Int32 → Int32 → Int32 → St → Option (Int32 × St)) (v1 : Int32) (v2 : Int32) (v3 : Int32) (v4 : Int32) (v6 : Int32) (t0 : Int32) (σ : St) : Option (Int32 × St) :=
  lt (v6 + 1) fun x10 =>
    rc v1 v2 v3 v4 t0 x10 σ
def mX12_wayFrom_116 (rc : Int32 → Int32 → Int32 → Int32 → Int32 → Int32 → St → Option (Int32 × St)) (v1 : Int32) (v2 : Int32) (v3 : Int32) (v5 : Int32) (v6 : Int32) (v8 : Int32) (v9 : Int32) (t0 : Int32) (σ : St) : Option (Int32 × St) :=
  if v9 = 0 then
    (mX12_wayFrom_130 rc v1 v2 v3 t0 v6 v5 σ)
    else
    (mX12_wayFrom_130 rc v1 v2 v3 t0 v6 v8 σ)
def mX12_wayFrom_102 (rc : Int32 → Int32 → Int32 → Int32 → Int32 → Int32 → St → Option (Int32 × St)) (v1 : Int32) (v2 : Int32) (v3 : Int32) (v4 : Int32) (v5 : Int32) (v6 : Int32) (v7 : Int32) (v8 : Int32) (t0 : Int32) (σ : St) : Option (Int32 × St) :=
  if t0 = 0 then
    (mX12_wayFrom_116 rc v1 v2 v3 v5 v6 v8 t0 v4 σ)
    else
    (mX12_wayFrom_116 rc v1 v2 v3 v5 v6 v8 t0 v7 σ)
def mX12_wayFrom_97 (rc : Int32 → Int32 → Int32 → Int32 → Int32 → Int32 → St → Option (Int32 × St)) (v1 : Int32) (v2 : Int32) (v3 : Int32) (v4 : Int32) (v5 : Int32) (v6 : Int32) (v7 : Int32) (v8 : Int32) (σ : St) : Option (Int32 × St) :=
  mX12_wayFrom_102 rc v1 v2 v3 v4 v5 v6 v7 v8 1 σ
def mX12_wayFrom_101 (rc : Int32 → Int32 → Int32 → Int32 → Int32 → Int32 → St → Option (Int32 × St)) (v1 : Int32) (v2 : Int32) (v3 : Int32) (v4 : Int32) (v5 : Int32) (v6 : Int32) (v7 : Int32) (v8 : Int32) (σ : St) : Option (Int32 × St) :=
  mX12_wayFrom_102 rc v1 v2 v3 v4 v5 v6 v7 v8 0 σ
def mX12_wayFrom_68 (rc : Int32 → Int32 → Int32 → Int32 → Int32 → Int32 → St → Option (Int32 × St)) (v1 : Int32) (v2 : Int32) (v3 : Int32) (v4 : Int32) (v5 : Int32) (v6 : Int32) (v7 : Int32) (t0 : Int32) (σ : St) : Option (Int32 × St) :=
  if t0 < v5 then
    (mX12_wayFrom_97 rc v1 v2 v3 v4 v5 v6 v7 t0 σ)
    else
    (if t0 = v5 then
    (if v4 = (-9) then
    (mX12_wayFrom_101 rc v1 v2 v3 v4 v5 v6 v7 t0 σ)
    else
    (if v7 = v2 then
    (mX12_wayFrom_97 rc v1 v2 v3 v4 v5 v6 v7 t0 σ)
    else
    (mX12_wayFrom_101 rc v1 v2 v3 v4 v5 v6 v7 t0 σ)))
    else
    (mX12_wayFrom_101 rc v1 v2 v3 v4 v5 v6 v7 t0 σ))
def mX12_wayFrom_37 (rc : Int32 → Int32 → Int32 → Int32 → Int32 → Int32 → St → Option (Int32 × St)) (v1 : Int32) (v2 : Int32) (v3 : Int32) (v4 : Int32) (v5 : Int32) (v6 : Int32) (t0 : Int32) (σ : St) : Option (Int32 × St) :=
  bd (mX12_isShut v1 t0 σ) fun r3 s4 =>
    if r3 = 0 then
    (bd (mX12_beside v1 t0 s4) fun r6 s7 =>
    gd (ib (1 + r6) 5019) <|
    mX12_wayFrom_68 rc v1 v2 v3 v4 v5 v6 t0 (s7 1 (nx (1 + r6))) s7)
    else
    (mX12_wayFrom_68 rc v1 v2 v3 v4 v5 v6 t0 99 s4)
def mX12_wayFrom_17 : Nat → Int32 → Int32 → Int32 → Int32 → Int32 → Int32 → St → Option (Int32 × St)
  | 0, _, _, _, _, _, _, _ => none
  | n + 1, v1, v2, v3, v4, v5, v6, σ => if v6 < 4 then
    (if v3 = 1 then
    (mX12_wayFrom_37 (mX12_wayFrom_17 n) v1 v2 v3 v4 v5 v6 (3 - v6) σ)
    else
    (mX12_wayFrom_37 (mX12_wayFrom_17 n) v1 v2 v3 v4 v5 v6 v6 σ))
    else
    (some (v4, σ))
def mX12_wayFrom (v1 : Int32) (v2 : Int32) (v3 : Int32) (σ : St) : Option (Int32 × St) :=
  gd (ib (1 + v1) 5019) <|
    lt (σ 1 (nx (1 + v1))) fun x2 =>
    mX12_wayFrom_17 FU v1 v2 v3 (-9) x2 0 σ

def mX12_roll_122 (v4 : Int32) (σ : St) : Option (Int32 × St) :=
  lt (s_up σ 0 32 (v4 + 100)) fun s4 =>
    some (0, s4)
def mX12_roll_117 (k122 : Int32 → St → Option (Int32 × St)) (rc : Int32 → Int32 → Int32 → Int32 → Int32 → St → Option (Int32 × St)) (v1 : Int32) (v2 : Int32) (v4 : Int32) (v5 : Int32) (t0 : Int32) (σ : St) : Option (Int32 × St) :=
  rc v1 v2 v4 v5 t0 σ
def mX12_roll_38 (k122 : Int32 → St → Option (Int32 × St)) : Nat → Int32 → Int32 → Int32 → Int32 → Int32 → St → Option (Int32 × St)
  | 0, _, _, _, _, _, _ => none
  | n + 1, v1, v2, v4, v5, v6, σ => if v6 = 0 then
    (bd (mX12_wayFrom v4 v5 v2 σ) fun r5 s6 =>
    if r5 = (-9) then
    (lt (s_up s6 0 32 v4) fun s14 =>
    some (0, s14))
    else
    (bd (mX12_beside v4 r5 s6) fun r8 s9 =>
    lt (s_up s9 0 33 ((s9 0 33) + 1)) fun s11 =>
    lt (s_up s11 0 34 ((s11 0 34) ||| (i_shl 1 r8))) fun s12 =>
    gd (ib r8 30) <|
    if (s12 5 (nx r8)) < v1 then
    (mX12_roll_117 k122 (mX12_roll_38 k122 n) v1 v2 r8 r5 0 s12)
    else
    (mX12_roll_117 k122 (mX12_roll_38 k122 n) v1 v2 r8 r5 1 s12)))
    else
    (k122 v4 σ)
def mX12_roll_36 (v1 : Int32) (v2 : Int32) (v4 : Int32) (v5 : Int32) (t0 : Int32) (σ : St) : Option (Int32 × St) :=
  mX12_roll_38 (mX12_roll_122) FU v1 v2 v4 v5 t0 σ
def mX12_roll (v1 : Int32) (v2 : Int32) (v3 : Int32) (σ : St) : Option (Int32 × St) :=
  lt (s_up σ 0 33 0) fun s1 =>
    lt (s_up s1 0 34 (i_shl 1 v3)) fun s2 =>
    gd (ib v3 30) <|
    if (s2 5 (nx v3)) < v1 then
    (mX12_roll_36 v1 v2 v3 (-9) 0 s2)
    else
    (mX12_roll_36 v1 v2 v3 (-9) 1 s2)

def mX12_rollKind (v1 : Int32) (v2 : Int32) (σ : St) : Option (Int32 × St) :=
  gd (ib v1 5) <|
    gd (ib v1 5) <|
    bd (mX12_roll (σ 7 (nx v1)) (σ 9 (nx v1)) v2 σ) fun r3 s4 =>
    some (0, s4)

def mX12_toldEnd (σ : St) : Option (Int32 × St) :=
  if (σ 0 32) < 100 then
    (bd (mX12_pairOf (σ 0 32) σ) fun r1 s2 =>
    some (r1, s2))
    else
    (bd (mX12_pairOf ((σ 0 32) - 100) σ) fun r4 s5 =>
    some ((100 + r4), s5))

def mX12_endOf (v1 : Int32) (v2 : Int32) (σ : St) : Option (Int32 × St) :=
  bd (mX12_rollKind v1 v2 σ) fun r1 s2 =>
    some ((i_rem (s2 0 32) 100), s2)

def mX12_cell (v1 : Int32) (v2 : Int32) (v3 : Int32) (σ : St) : Option (Int32 × St) :=
  bd (mX12_isCell v1 v2 σ) fun r1 s2 =>
    if r1 = 0 then
    (some ((-1), s2))
    else
    (bd (mX12_bit v1 v2 s2) fun r4 s5 =>
    if v3 = 0 then
    (gd (ib (1 + r4) 5019) <|
    some ((s5 1 (nx (1 + r4))), s5))
    else if v3 = 1 then
    (gd (ib r4 30) <|
    some ((s5 5 (nx r4)), s5))
    else if v3 = 2 then
    (bd (mX12_liesOn r4 s5) fun r9 s10 =>
    some (r9, s10))
    else if v3 = 3 then
    (gd (ib (61 + r4) 5019) <|
    some ((s5 1 (nx (61 + r4))), s5))
    else if v3 = 4 then
    (gd (ib (91 + r4) 5019) <|
    some ((s5 1 (nx (91 + r4))), s5))
    else if v3 = 5 then
    (gd (ib (121 + r4) 5019) <|
    some ((s5 1 (nx (121 + r4))), s5))
    else if v3 = 6 then
    (bd (mX12_shutWays r4 s5) fun r15 s16 =>
    some (r15, s16))
    else 
    (some ((-1), s5)))

def mX12_kind (v1 : Int32) (v2 : Int32) (σ : St) : Option (Int32 × St) :=
  bd (mX12_isKind v1 σ) fun r1 s2 =>
    if r1 = 0 then
    (some ((-1), s2))
    else
    (if v2 = 0 then
    (gd (ib v1 5) <|
    some ((s2 7 (nx v1)), s2))
    else
    (if v2 = 1 then
    (gd (ib v1 5) <|
    some ((s2 8 (nx v1)), s2))
    else
    (if v2 = 2 then
    (gd (ib v1 5) <|
    some ((s2 9 (nx v1)), s2))
    else
    (some ((-1), s2)))))

def mX12_keepPast_101 (v1 : Int32) (σ : St) : Option (Int32 × St) :=
  gd (ib 0 5019) <|
    lt (s_up σ 1 (nx 0) (v1 + 1)) fun s5 =>
    some (0, s5)
def mX12_keepPast_64 (k101 : Int32 → St → Option (Int32 × St)) : Nat → Int32 → Int32 → St → Option (Int32 × St)
  | 0, _, _, _ => none
  | n + 1, v1, v2, σ => if v2 < 152 then
    (gd (ib (1 + v2) 5019) <|
    lt ((1 + (152 * (1 + v1))) + v2) fun x7 =>
    gd (ib x7 5019) <|
    lt (s_up σ 1 (nx x7) (σ 1 (nx (1 + v2)))) fun s9 =>
    lt (v2 + 1) fun x10 =>
    mX12_keepPast_64 k101 n v1 x10 s9)
    else
    (k101 v1 σ)
def mX12_keepPast_60 (t0 : Int32) (t1 : Int32) (σ : St) : Option (Int32 × St) :=
  lt (t1 - t0) fun x3 =>
    mX12_keepPast_64 (mX12_keepPast_101) FU x3 0 σ
def mX12_keepPast_48 (v1 : Int32) (σ : St) : Option (Int32 × St) :=
  if v1 = 10 then
    (mX12_keepPast_60 1 v1 σ)
    else
    (mX12_keepPast_60 0 v1 σ)
def mX12_keepPast_9 (k48 : Int32 → St → Option (Int32 × St)) : Nat → Int32 → Int32 → St → Option (Int32 × St)
  | 0, _, _, _ => none
  | n + 1, v1, v2, σ => if v2 < 1368 then
    (if v1 = 10 then
    (gd (ib (305 + v2) 5019) <|
    gd (ib (153 + v2) 5019) <|
    lt (s_up σ 1 (nx (153 + v2)) (σ 1 (nx (305 + v2)))) fun s13 =>
    lt (v2 + 1) fun x14 =>
    mX12_keepPast_9 k48 n v1 x14 s13)
    else
    (k48 v1 σ))
    else
    (k48 v1 σ)
def mX12_keepPast (σ : St) : Option (Int32 × St) :=
  gd (ib 0 5019) <|
    lt (σ 1 (nx 0)) fun x2 =>
    mX12_keepPast_9 (mX12_keepPast_48) FU x2 0 σ

def mX12_lying_4 : Nat → Int32 → Int32 → St → Option (Int32 × St)
  | 0, _, _, _ => none
  | n + 1, v1, v2, σ => bd (mX12_cells σ) fun r1 s2 =>
    if v2 < r1 then
    (bd (mX12_liesOn v2 s2) fun r4 s5 =>
    lt (v1 + r4) fun x7 =>
    lt (v2 + 1) fun x8 =>
    mX12_lying_4 n x7 x8 s5)
    else
    (some (v1, s2))
def mX12_lying (σ : St) : Option (Int32 × St) :=
  mX12_lying_4 FU 0 0 σ

def mX12_sumFrom_4 : Nat → Int32 → Int32 → Int32 → St → Option (Int32 × St)
  | 0, _, _, _, _ => none
  | n + 1, v1, v2, v3, σ => bd (mX12_cells σ) fun r1 s2 =>
    if v3 < r1 then
    (gd (ib (v1 + v3) 5019) <|
    lt (v2 + (s2 1 (nx (v1 + v3)))) fun x5 =>
    lt (v3 + 1) fun x6 =>
    mX12_sumFrom_4 n v1 x5 x6 s2)
    else
    (some (v2, s2))
def mX12_sumFrom (v1 : Int32) (σ : St) : Option (Int32 × St) :=
  mX12_sumFrom_4 FU v1 0 0 σ

def mX12_lets_119 (v1 : Int32) (v4 : Int32) (t0 : Int32) (σ : St) : Option (Int32 × St) :=
  gd (ib (t0 + v4) 5019) <|
    gd (ib v1 5) <|
    gd (ib (t0 + v4) 5019) <|
    lt (s_up σ 1 (nx (t0 + v4)) ((σ 1 (nx (t0 + v4))) + (σ 8 (nx v1)))) fun s29 =>
    bd (mX12_toldEnd s29) fun r30 s31 =>
    some (r30, s31)
def mX12_lets_95 (v1 : Int32) (v4 : Int32) (v5 : Int32) (t0 : Int32) (σ : St) : Option (Int32 × St) :=
  gd (ib (t0 + v4) 5019) <|
    gd (ib (t0 + v4) 5019) <|
    lt (s_up σ 1 (nx (t0 + v4)) ((σ 1 (nx (t0 + v4))) + 1)) fun s25 =>
    if v5 = 0 then
    (mX12_lets_119 v1 v4 61 s25)
    else
    (mX12_lets_119 v1 v4 121 s25)
def mX12_lets_77 (v1 : Int32) (v4 : Int32) (t0 : Int32) (σ : St) : Option (Int32 × St) :=
  if t0 = 0 then
    (mX12_lets_95 v1 v4 t0 31 σ)
    else
    (mX12_lets_95 v1 v4 t0 91 σ)
def mX12_lets (v1 : Int32) (v2 : Int32) (v3 : Int32) (σ : St) : Option (Int32 × St) :=
  bd (mX12_isKind v1 σ) fun r1 s2 =>
    if r1 = 0 then
    (some ((-1), s2))
    else
    (bd (mX12_isCell v2 v3 s2) fun r4 s5 =>
    if r4 = 0 then
    (some ((-1), s5))
    else
    (bd (mX12_lying s5) fun r7 s8 =>
    bd (mX12_sumFrom 91 s8) fun r10 s11 =>
    if (r7 + r10) = 999 then
    (some ((-2), s11))
    else
    (bd (mX12_keepPast s11) fun r13 s14 =>
    bd (mX12_bit v2 v3 s14) fun r16 s17 =>
    bd (mX12_rollKind v1 r16 s17) fun r19 s20 =>
    lt (i_rem (s20 0 32) 100) fun x22 =>
    if (s20 0 32) < 100 then
    (mX12_lets_77 v1 x22 0 s20)
    else
    (mX12_lets_77 v1 x22 1 s20))))

def mX12_planksNow_24 (rc : Int32 → Int32 → St → Option (Int32 × St)) (v2 : Int32) (t0 : Int32) (t1 : Int32) (σ : St) : Option (Int32 × St) :=
  lt (t1 + t0) fun x4 =>
    lt (v2 + 1) fun x5 =>
    rc x4 x5 σ
def mX12_planksNow_4 : Nat → Int32 → Int32 → St → Option (Int32 × St)
  | 0, _, _, _ => none
  | n + 1, v1, v2, σ => if v2 < 60 then
    (bd (mX12_isPlank v2 σ) fun r1 s2 =>
    if r1 = 0 then
    (mX12_planksNow_24 (mX12_planksNow_4 n) v2 0 v1 s2)
    else
    (mX12_planksNow_24 (mX12_planksNow_4 n) v2 1 v1 s2))
    else
    (some (v1, σ))
def mX12_planksNow (σ : St) : Option (Int32 × St) :=
  mX12_planksNow_4 FU 0 0 σ

def mX12_sets (v1 : Int32) (v2 : Int32) (v3 : Int32) (σ : St) : Option (Int32 × St) :=
  bd (mX12_isCell v1 v2 σ) fun r1 s2 =>
    if r1 = 0 then
    (some ((-1), s2))
    else
    (bd (mX12_in (Int32.toInt64 v3) 0 3 s2) fun r4 s5 =>
    if r4 = 0 then
    (some ((-1), s5))
    else
    (bd (mX12_bit v1 v2 s5) fun r7 s8 =>
    bd (mX12_isShut r7 v3 s8) fun r10 s11 =>
    if r10 = 0 then
    (bd (mX12_planksNow s11) fun r13 s14 =>
    if r13 = 8 then
    (some ((-3), s14))
    else
    (bd (mX12_keepPast s14) fun r16 s17 =>
    bd (mX12_sideOf r7 v3 s17) fun r19 s20 =>
    bd (mX12_setPlank r19 s20) fun r22 s23 =>
    bd (mX12_planksNow s23) fun r25 s26 =>
    some (r25, s26)))
    else
    (some ((-2), s11))))

def mX12_takes (v1 : Int32) (v2 : Int32) (v3 : Int32) (σ : St) : Option (Int32 × St) :=
  bd (mX12_isCell v1 v2 σ) fun r1 s2 =>
    if r1 = 0 then
    (some ((-1), s2))
    else
    (bd (mX12_in (Int32.toInt64 v3) 0 3 s2) fun r4 s5 =>
    if r4 = 0 then
    (some ((-1), s5))
    else
    (bd (mX12_bit v1 v2 s5) fun r7 s8 =>
    bd (mX12_isEdge r7 v3 s8) fun r10 s11 =>
    if r10 = 0 then
    (bd (mX12_sideOf r7 v3 s11) fun r13 s14 =>
    bd (mX12_isPlank r13 s14) fun r16 s17 =>
    if r16 = 0 then
    (some ((-2), s17))
    else
    (bd (mX12_keepPast s17) fun r19 s20 =>
    bd (mX12_sideOf r7 v3 s20) fun r22 s23 =>
    bd (mX12_setPlank r22 s23) fun r25 s26 =>
    bd (mX12_planksNow s26) fun r28 s29 =>
    some (r28, s29)))
    else
    (some ((-2), s11))))

def mX12_cobble_48 (v4 : Int32) (t0 : Int32) (t1 : Int32) (σ : St) : Option (Int32 × St) :=
  lt (t1 + t0) fun x11 =>
    bd (mX12_in (Int32.toInt64 x11) 0 9 σ) fun r12 s13 =>
    if r12 = 0 then
    (some ((-2), s13))
    else
    (bd (mX12_keepPast s13) fun r15 s16 =>
    gd (ib (1 + v4) 5019) <|
    lt (s_up s16 1 (nx (1 + v4)) x11) fun s19 =>
    some (x11, s19))
def mX12_cobble (v1 : Int32) (v2 : Int32) (v3 : Int32) (σ : St) : Option (Int32 × St) :=
  bd (mX12_isCell v1 v2 σ) fun r1 s2 =>
    if r1 = 0 then
    (some ((-1), s2))
    else
    (bd (mX12_in (Int32.toInt64 v3) 0 1 s2) fun r4 s5 =>
    if r4 = 0 then
    (some ((-1), s5))
    else
    (bd (mX12_bit v1 v2 s5) fun r7 s8 =>
    gd (ib (1 + r7) 5019) <|
    if v3 = 1 then
    (mX12_cobble_48 r7 1 (s8 1 (nx (1 + r7))) s8)
    else
    (mX12_cobble_48 r7 (-1) (s8 1 (nx (1 + r7))) s8)))

def mX12_sweep (v1 : Int32) (v2 : Int32) (σ : St) : Option (Int32 × St) :=
  bd (mX12_isCell v1 v2 σ) fun r1 s2 =>
    if r1 = 0 then
    (some ((-1), s2))
    else
    (bd (mX12_bit v1 v2 s2) fun r4 s5 =>
    bd (mX12_liesOn r4 s5) fun r7 s8 =>
    if r7 = 0 then
    (some ((-2), s8))
    else
    (bd (mX12_keepPast s8) fun r10 s11 =>
    gd (ib (61 + r4) 5019) <|
    lt (s11 1 (nx (61 + r4))) fun x14 =>
    gd (ib (31 + r4) 5019) <|
    bd (mX12_liesOn r4 s11) fun r16 s17 =>
    gd (ib (31 + r4) 5019) <|
    lt (s_up s17 1 (nx (31 + r4)) ((s11 1 (nx (31 + r4))) - r16)) fun s20 =>
    gd (ib (61 + r4) 5019) <|
    lt (s_up s20 1 (nx (61 + r4)) 0) fun s22 =>
    some (x14, s22)))

def mX12_undo_66 (σ : St) : Option (Int32 × St) :=
  gd (ib 0 5019) <|
    some ((σ 1 (nx 0)), σ)
def mX12_undo_24 (k66 : St → Option (Int32 × St)) : Nat → Int32 → St → Option (Int32 × St)
  | 0, _, _ => none
  | n + 1, v1, σ => if v1 < 152 then
    (gd (ib 0 5019) <|
    lt ((1 + (152 * (1 + (σ 1 (nx 0))))) + v1) fun x7 =>
    gd (ib x7 5019) <|
    gd (ib (1 + v1) 5019) <|
    lt (s_up σ 1 (nx (1 + v1)) (σ 1 (nx x7))) fun s10 =>
    lt (v1 + 1) fun x11 =>
    mX12_undo_24 k66 n x11 s10)
    else
    (k66 σ)
def mX12_undo (σ : St) : Option (Int32 × St) :=
  gd (ib 0 5019) <|
    if (σ 1 (nx 0)) = 0 then
    (some ((-2), σ))
    else
    (gd (ib 0 5019) <|
    gd (ib 0 5019) <|
    lt (s_up σ 1 (nx 0) ((σ 1 (nx 0)) - 1)) fun s4 =>
    mX12_undo_24 (mX12_undo_66) FU 0 s4)

def mX12_isSo_56 (rc : Int32 → Int32 → St → Option (Int32 × St)) (v2 : Int32) (t0 : Int32) (σ : St) : Option (Int32 × St) :=
  lt (v2 + 1) fun x9 =>
    rc t0 x9 σ
def mX12_isSo_4 : Nat → Int32 → Int32 → St → Option (Int32 × St)
  | 0, _, _, _ => none
  | n + 1, v1, v2, σ => if v1 = 0 then
    (gd (zb v1) <|
    some (v1, σ))
    else
    (if v2 < (σ 0 15) then
    (gd (ib (3 * v2) 18) <|
    gd (ib ((3 * v2) + 1) 18) <|
    bd (mX12_endOf (σ 10 (nx (3 * v2))) (σ 10 (nx ((3 * v2) + 1))) σ) fun r5 s6 =>
    gd (ib ((3 * v2) + 2) 18) <|
    if r5 = (s6 10 (nx ((3 * v2) + 2))) then
    (mX12_isSo_56 (mX12_isSo_4 n) v2 1 s6)
    else
    (mX12_isSo_56 (mX12_isSo_4 n) v2 0 s6))
    else
    (gd (zb v1) <|
    some (v1, σ)))
def mX12_isSo (σ : St) : Option (Int32 × St) :=
  mX12_isSo_4 FU 1 0 σ

def mX12_now (v1 : Int32) (σ : St) : Option (Int32 × St) :=
  if v1 = 0 then
    (bd (mX12_lying σ) fun r1 s2 =>
    bd (mX12_sumFrom 91 s2) fun r4 s5 =>
    some ((r1 + r4), s5))
    else if v1 = 1 then
    (bd (mX12_lying σ) fun r7 s8 =>
    some (r7, s8))
    else if v1 = 2 then
    (bd (mX12_sumFrom 61 σ) fun r10 s11 =>
    some (r10, s11))
    else if v1 = 3 then
    (bd (mX12_sumFrom 91 σ) fun r13 s14 =>
    some (r13, s14))
    else if v1 = 4 then
    (bd (mX12_sumFrom 121 σ) fun r16 s17 =>
    some (r16, s17))
    else if v1 = 5 then
    (bd (mX12_planksNow σ) fun r19 s20 =>
    some (r19, s20))
    else if v1 = 6 then
    (bd (mX12_isSo σ) fun r22 s23 =>
    if r22 = 0 then
    (some (0, s23))
    else
    (some (1, s23)))
    else 
    (some ((-1), σ))

def mX12_end (v1 : Int32) (v2 : Int32) (v3 : Int32) (v4 : Int32) (σ : St) : Option (Int32 × St) :=
  bd (mX12_isKind v1 σ) fun r1 s2 =>
    if r1 = 0 then
    (some ((-1), s2))
    else
    (bd (mX12_isCell v2 v3 s2) fun r4 s5 =>
    if r4 = 0 then
    (some ((-1), s5))
    else
    (bd (mX12_in (Int32.toInt64 v4) 0 2 s5) fun r7 s8 =>
    if r7 = 0 then
    (some ((-1), s8))
    else
    (bd (mX12_bit v2 v3 s8) fun r10 s11 =>
    bd (mX12_rollKind v1 r10 s11) fun r13 s14 =>
    if v4 = 0 then
    (bd (mX12_toldEnd s14) fun r16 s17 =>
    some (r16, s17))
    else
    (if v4 = 1 then
    (some ((s14 0 33), s14))
    else
    (some ((s14 0 34), s14))))))

def mX12_doorsOf_34 (rc : Int32 → Int32 → Int32 → Int32 → St → Option (Int32 × St)) (v1 : Int32) (v2 : Int32) (v4 : Int32) (t0 : Int32) (t1 : Int32) (σ : St) : Option (Int32 × St) :=
  lt (t1 ||| t0) fun x7 =>
    lt (v4 + 1) fun x8 =>
    rc v1 v2 x7 x8 σ
def mX12_doorsOf_5 : Nat → Int32 → Int32 → Int32 → Int32 → St → Option (Int32 × St)
  | 0, _, _, _, _, _ => none
  | n + 1, v1, v2, v3, v4, σ => bd (mX12_cells σ) fun r1 s2 =>
    if v4 < r1 then
    (bd (mX12_endOf v1 v4 s2) fun r4 s5 =>
    if r4 = v2 then
    (mX12_doorsOf_34 (mX12_doorsOf_5 n) v1 v2 v4 (i_shl 1 v4) v3 s5)
    else
    (mX12_doorsOf_34 (mX12_doorsOf_5 n) v1 v2 v4 0 v3 s5))
    else
    (some (v3, s2))
def mX12_doorsOf (v1 : Int32) (v2 : Int32) (σ : St) : Option (Int32 × St) :=
  mX12_doorsOf_5 FU v1 v2 0 0 σ

def mX12_doors (v1 : Int32) (v2 : Int32) (v3 : Int32) (σ : St) : Option (Int32 × St) :=
  bd (mX12_isKind v1 σ) fun r1 s2 =>
    if r1 = 0 then
    (some ((-1), s2))
    else
    (bd (mX12_isCell v2 v3 s2) fun r4 s5 =>
    if r4 = 0 then
    (some ((-1), s5))
    else
    (bd (mX12_bit v2 v3 s5) fun r7 s8 =>
    bd (mX12_doorsOf v1 r7 s8) fun r10 s11 =>
    some (r10, s11)))

def mX12_isFree_11 (v1 : Int32) (t0 : Int32) (σ : St) : Option (Int32 × St) :=
  bd (mX12_isEdge (v1 / 2) t0 σ) fun r1 s2 =>
    if r1 = 0 then
    (bd (mX12_isKerb v1 s2) fun r4 s5 =>
    if r4 = 0 then
    (bd (mX12_isPlank v1 s5) fun r7 s8 =>
    if r7 = 0 then
    (some (1, s8))
    else
    (some (0, s8)))
    else
    (some (0, s5)))
    else
    (some (0, s2))
def mX12_isFree (v1 : Int32) (σ : St) : Option (Int32 × St) :=
  if (i_rem v1 2) = 0 then
    (mX12_isFree_11 v1 1 σ)
    else
    (mX12_isFree_11 v1 2 σ)

def mX12_triesPlanks_123 (rc : Int32 → Int32 → Int32 → Int32 → Int32 → St → Option (Int32 × St)) (v1 : Int32) (v2 : Int32) (v3 : Int32) (v4 : Int32) (v5 : Int32) (σ : St) : Option (Int32 × St) :=
  lt (v5 + 1) fun x7 =>
    rc v1 v2 v3 v4 x7 σ
def mX12_triesPlanks_117 (k123 : Int32 → Int32 → Int32 → Int32 → Int32 → St → Option (Int32 × St)) (rc : Int32 → Int32 → Int32 → Int32 → Int32 → Int32 → St → Option (Int32 × St)) (v1 : Int32) (v2 : Int32) (v3 : Int32) (v4 : Int32) (v5 : Int32) (v6 : Int32) (σ : St) : Option (Int32 × St) :=
  lt (v6 + 1) fun x18 =>
    rc v1 v2 v3 v4 v5 x18 σ
def mX12_triesPlanks_93 (k123 : Int32 → Int32 → Int32 → Int32 → Int32 → St → Option (Int32 × St)) (rc : Int32 → Int32 → Int32 → Int32 → Int32 → Int32 → St → Option (Int32 × St)) (v1 : Int32) (v2 : Int32) (v3 : Int32) (v4 : Int32) (v5 : Int32) (v6 : Int32) (t0 : Int32) (σ : St) : Option (Int32 × St) :=
  lt (s_up σ 0 31 t0) fun s17 =>
    if (s17 0 31) = (-9) then
    (mX12_triesPlanks_117 k123 rc v1 v2 v3 v4 v5 v6 s17)
    else
    (bd (mX12_endOf v1 v2 s17) fun r19 s20 =>
    if r19 = v3 then
    (some (1, s20))
    else
    (mX12_triesPlanks_117 k123 rc v1 v2 v3 v4 v5 v6 s20))
def mX12_triesPlanks_59 (k123 : Int32 → Int32 → Int32 → Int32 → Int32 → St → Option (Int32 × St)) : Nat → Int32 → Int32 → Int32 → Int32 → Int32 → Int32 → St → Option (Int32 × St)
  | 0, _, _, _, _, _, _, _ => none
  | n + 1, v1, v2, v3, v4, v5, v6, σ => bd (mX12_cells σ) fun r11 s12 =>
    if v6 < (2 * r11) then
    (if v4 = 2 then
    (bd (mX12_isFree v6 s12) fun r14 s15 =>
    if r14 = 0 then
    (mX12_triesPlanks_93 k123 (mX12_triesPlanks_59 k123 n) v1 v2 v3 v4 v5 v6 (-9) s15)
    else
    (mX12_triesPlanks_93 k123 (mX12_triesPlanks_59 k123 n) v1 v2 v3 v4 v5 v6 v6 s15))
    else
    (k123 v1 v2 v3 v4 v5 s12))
    else
    (k123 v1 v2 v3 v4 v5 s12)
def mX12_triesPlanks_53 (rc : Int32 → Int32 → Int32 → Int32 → Int32 → St → Option (Int32 × St)) (v1 : Int32) (v2 : Int32) (v3 : Int32) (v4 : Int32) (v5 : Int32) (σ : St) : Option (Int32 × St) :=
  lt (v5 + 1) fun x10 =>
    mX12_triesPlanks_59 (mX12_triesPlanks_123 rc) FU v1 v2 v3 v4 v5 x10 σ
def mX12_triesPlanks_3 : Nat → Int32 → Int32 → Int32 → Int32 → Int32 → St → Option (Int32 × St)
  | 0, _, _, _, _, _, _ => none
  | n + 1, v1, v2, v3, v4, v5, σ => bd (mX12_cells σ) fun r1 s2 =>
    if v5 < (2 * r1) then
    (bd (mX12_isFree v5 s2) fun r4 s5 =>
    if r4 = 0 then
    (mX12_triesPlanks_123 (mX12_triesPlanks_3 n) v1 v2 v3 v4 v5 s5)
    else
    (lt (s_up s5 0 30 v5) fun s8 =>
    lt (s_up s8 0 31 (-9)) fun s9 =>
    if v4 = 1 then
    (bd (mX12_endOf v1 v2 s9) fun r22 s23 =>
    if r22 = v3 then
    (some (1, s23))
    else
    (mX12_triesPlanks_53 (mX12_triesPlanks_3 n) v1 v2 v3 v4 v5 s23))
    else
    (mX12_triesPlanks_53 (mX12_triesPlanks_3 n) v1 v2 v3 v4 v5 s9)))
    else
    (some (0, s2))
def mX12_triesPlanks (v1 : Int32) (v2 : Int32) (v3 : Int32) (v4 : Int32) (σ : St) : Option (Int32 × St) :=
  mX12_triesPlanks_3 FU v1 v2 v3 v4 0 σ

def mX12_toldSide (v1 : Int32) (σ : St) : Option (Int32 × St) :=
  if v1 = (-9) then
    (some ((-5), σ))
    else
    (bd (mX12_pairOf (v1 / 2) σ) fun r1 s2 =>
    some (((10 * r1) + (i_rem v1 2)), s2))

def mX12_planks_150 (v4 : Int32) (v7 : Int32) (v8 : Int32) (t0 : Int32) (σ : St) : Option (Int32 × St) :=
  lt (s_up σ 0 30 (-9)) fun s30 =>
    lt (s_up s30 0 31 (-9)) fun s31 =>
    if v7 = (-9) then
    (some (v7, s31))
    else
    (if v4 = 0 then
    (some (v7, s31))
    else
    (if v4 = 1 then
    (bd (mX12_toldSide v8 s31) fun r35 s36 =>
    some (r35, s36))
    else
    (bd (mX12_toldSide t0 s31) fun r32 s33 =>
    some (r32, s33))))
def mX12_planks_133 (v4 : Int32) (v7 : Int32) (t0 : Int32) (σ : St) : Option (Int32 × St) :=
  if v7 = 2 then
    (mX12_planks_150 v4 v7 t0 (σ 0 31) σ)
    else
    (mX12_planks_150 v4 v7 t0 (-9) σ)
def mX12_planks_117 (v4 : Int32) (t0 : Int32) (σ : St) : Option (Int32 × St) :=
  if 0 < t0 then
    (mX12_planks_133 v4 t0 (σ 0 30) σ)
    else
    (mX12_planks_133 v4 t0 (-9) σ)
def mX12_planks (v1 : Int32) (v2 : Int32) (v3 : Int32) (v4 : Int32) (σ : St) : Option (Int32 × St) :=
  bd (mX12_isKind v1 σ) fun r1 s2 =>
    if r1 = 0 then
    (some ((-1), s2))
    else
    (bd (mX12_isPair v2 s2) fun r4 s5 =>
    if r4 = 0 then
    (some ((-1), s5))
    else
    (bd (mX12_isPair v3 s5) fun r7 s8 =>
    if r7 = 0 then
    (some ((-1), s8))
    else
    (bd (mX12_in (Int32.toInt64 v4) 0 2 s8) fun r10 s11 =>
    if r10 = 0 then
    (some ((-1), s11))
    else
    (bd (mX12_bitOf v2 s11) fun r13 s14 =>
    bd (mX12_bitOf v3 s14) fun r16 s17 =>
    lt (s_up s17 0 30 (-9)) fun s19 =>
    lt (s_up s19 0 31 (-9)) fun s20 =>
    bd (mX12_endOf v1 r13 s20) fun r21 s22 =>
    if r21 = r16 then
    (mX12_planks_117 v4 0 s22)
    else
    (bd (mX12_triesPlanks v1 r13 r16 1 s22) fun r24 s25 =>
    if r24 = 0 then
    (bd (mX12_triesPlanks v1 r13 r16 2 s25) fun r27 s28 =>
    if r27 = 0 then
    (mX12_planks_117 v4 (-9) s28)
    else
    (mX12_planks_117 v4 2 s28))
    else
    (mX12_planks_117 v4 1 s25))))))

def mX12_paved_142 (v4 : Int32) (v5 : Int32) (v6 : Int32) (σ : St) : Option (Int32 × St) :=
  if v5 = (-9) then
    (some ((-9), σ))
    else
    (if v4 = 0 then
    (bd (mX12_pairOf v5 σ) fun r13 s14 =>
    some (r13, s14))
    else
    (some (v6, σ)))
def mX12_paved_136 (k142 : Int32 → Int32 → Int32 → St → Option (Int32 × St)) (rc : Int32 → Int32 → Int32 → Int32 → Int32 → Int32 → Int32 → St → Option (Int32 × St)) (v1 : Int32) (v2 : Int32) (v3 : Int32) (v4 : Int32) (v5 : Int32) (v6 : Int32) (v7 : Int32) (σ : St) : Option (Int32 × St) :=
  lt (v7 + 1) fun x17 =>
    rc v1 v2 v3 v4 v5 v6 x17 σ
def mX12_paved_134 (k142 : Int32 → Int32 → Int32 → St → Option (Int32 × St)) (rc : Int32 → Int32 → Int32 → Int32 → Int32 → Int32 → Int32 → St → Option (Int32 × St)) (v1 : Int32) (v2 : Int32) (v3 : Int32) (v4 : Int32) (v5 : Int32) (v7 : Int32) (t0 : Int32) (σ : St) : Option (Int32 × St) :=
  mX12_paved_136 k142 rc v1 v2 v3 v4 v5 t0 v7 σ
def mX12_paved_118 (k142 : Int32 → Int32 → Int32 → St → Option (Int32 × St)) (rc : Int32 → Int32 → Int32 → Int32 → Int32 → Int32 → Int32 → St → Option (Int32 × St)) (v1 : Int32) (v2 : Int32) (v3 : Int32) (v4 : Int32) (v6 : Int32) (v7 : Int32) (v8 : Int32) (t0 : Int32) (σ : St) : Option (Int32 × St) :=
  if v6 < v8 then
    (mX12_paved_134 k142 rc v1 v2 v3 v4 t0 v7 v8 σ)
    else
    (mX12_paved_134 k142 rc v1 v2 v3 v4 t0 v7 v6 σ)
def mX12_paved_41 (k142 : Int32 → Int32 → Int32 → St → Option (Int32 × St)) : Nat → Int32 → Int32 → Int32 → Int32 → Int32 → Int32 → Int32 → St → Option (Int32 × St)
  | 0, _, _, _, _, _, _, _, _ => none
  | n + 1, v1, v2, v3, v4, v5, v6, v7, σ => bd (mX12_cells σ) fun r10 s11 =>
    if v7 < r10 then
    (gd (ib (1 + v7) 5019) <|
    if 0 < (s11 1 (nx (1 + v7))) then
    (gd (ib (1 + v7) 5019) <|
    gd (ib (1 + v7) 5019) <|
    lt (s_up s11 1 (nx (1 + v7)) ((s11 1 (nx (1 + v7))) - 1)) fun s20 =>
    bd (mX12_bit v2 v3 s20) fun r21 s22 =>
    bd (mX12_doorsOf v1 r21 s22) fun r24 s25 =>
    bd (mX12_bits r24 s25) fun r27 s28 =>
    gd (ib (1 + v7) 5019) <|
    gd (ib (1 + v7) 5019) <|
    lt (s_up s28 1 (nx (1 + v7)) ((s28 1 (nx (1 + v7))) + 1)) fun s32 =>
    if v6 < r27 then
    (mX12_paved_118 k142 (mX12_paved_41 k142 n) v1 v2 v3 v4 v6 v7 r27 v7 s32)
    else
    (mX12_paved_118 k142 (mX12_paved_41 k142 n) v1 v2 v3 v4 v6 v7 r27 v5 s32))
    else
    (mX12_paved_136 k142 (mX12_paved_41 k142 n) v1 v2 v3 v4 v5 v6 v7 s11))
    else
    (k142 v4 v5 v6 s11)
def mX12_paved (v1 : Int32) (v2 : Int32) (v3 : Int32) (v4 : Int32) (σ : St) : Option (Int32 × St) :=
  bd (mX12_isKind v1 σ) fun r1 s2 =>
    if r1 = 0 then
    (some ((-1), s2))
    else
    (bd (mX12_isCell v2 v3 s2) fun r4 s5 =>
    if r4 = 0 then
    (some ((-1), s5))
    else
    (bd (mX12_in (Int32.toInt64 v4) 0 1 s5) fun r7 s8 =>
    if r7 = 0 then
    (some ((-1), s8))
    else
    (mX12_paved_41 (mX12_paved_142) FU v1 v2 v3 v4 (-9) (-9) 0 s8)))

def mX12_rain_112 (v1 : Int32) (v2 : Int32) (v3 : Int32) (σ : St) : Option (Int32 × St) :=
  if v1 = 1 then
    (some (v3, σ))
    else
    (if v2 = (-9) then
    (some ((-9), σ))
    else
    (bd (mX12_pairOf v2 σ) fun r7 s8 =>
    some (r7, s8)))
def mX12_rain_105 (k112 : Int32 → Int32 → Int32 → St → Option (Int32 × St)) (rc : Int32 → Int32 → Int32 → Int32 → St → Option (Int32 × St)) (v1 : Int32) (v2 : Int32) (v4 : Int32) (t0 : Int32) (σ : St) : Option (Int32 × St) :=
  lt (v4 + 1) fun x13 =>
    rc v1 v2 t0 x13 σ
def mX12_rain_92 (k112 : Int32 → Int32 → Int32 → St → Option (Int32 × St)) (rc : Int32 → Int32 → Int32 → Int32 → St → Option (Int32 × St)) (v1 : Int32) (v3 : Int32) (v4 : Int32) (v5 : Int32) (t0 : Int32) (σ : St) : Option (Int32 × St) :=
  if v3 < v5 then
    (mX12_rain_105 k112 rc v1 t0 v4 v5 σ)
    else
    (mX12_rain_105 k112 rc v1 t0 v4 v3 σ)
def mX12_rain_80 (k112 : Int32 → Int32 → Int32 → St → Option (Int32 × St)) (rc : Int32 → Int32 → Int32 → Int32 → St → Option (Int32 × St)) (v1 : Int32) (v2 : Int32) (v3 : Int32) (v4 : Int32) (v5 : Int32) (σ : St) : Option (Int32 × St) :=
  if v3 < v5 then
    (mX12_rain_92 k112 rc v1 v3 v4 v5 v4 σ)
    else
    (mX12_rain_92 k112 rc v1 v3 v4 v5 v2 σ)
def mX12_rain_71 (k80 : Int32 → Int32 → Int32 → Int32 → Int32 → St → Option (Int32 × St)) (rc : Int32 → Int32 → Int32 → Int32 → Int32 → Int32 → St → Option (Int32 × St)) (v1 : Int32) (v2 : Int32) (v3 : Int32) (v4 : Int32) (v6 : Int32) (t0 : Int32) (t1 : Int32) (σ : St) : Option (Int32 × St) :=
  lt (t1 + t0) fun x17 =>
    lt (v6 + 1) fun x18 =>
    rc v1 v2 v3 v4 x17 x18 σ
def mX12_rain_35 (k80 : Int32 → Int32 → Int32 → Int32 → Int32 → St → Option (Int32 × St)) : Nat → Int32 → Int32 → Int32 → Int32 → Int32 → Int32 → St → Option (Int32 × St)
  | 0, _, _, _, _, _, _, _ => none
  | n + 1, v1, v2, v3, v4, v5, v6, σ => bd (mX12_cells σ) fun r10 s11 =>
    if v6 < r10 then
    (bd (mX12_roll 1 0 v6 s11) fun r14 s15 =>
    if (i_rem (s15 0 32) 100) = v4 then
    (mX12_rain_71 k80 (mX12_rain_35 k80 n) v1 v2 v3 v4 v6 1 v5 s15)
    else
    (mX12_rain_71 k80 (mX12_rain_35 k80 n) v1 v2 v3 v4 v6 0 v5 s15))
    else
    (k80 v1 v2 v3 v4 v5 s11)
def mX12_rain_20 (k112 : Int32 → Int32 → Int32 → St → Option (Int32 × St)) : Nat → Int32 → Int32 → Int32 → Int32 → St → Option (Int32 × St)
  | 0, _, _, _, _, _ => none
  | n + 1, v1, v2, v3, v4, σ => bd (mX12_cells σ) fun r4 s5 =>
    if v4 < r4 then
    (mX12_rain_35 (mX12_rain_80 k112 (mX12_rain_20 k112 n)) FU v1 v2 v3 v4 0 0 s5)
    else
    (k112 v1 v2 v3 s5)
def mX12_rain (v1 : Int32) (σ : St) : Option (Int32 × St) :=
  bd (mX12_in (Int32.toInt64 v1) 0 1 σ) fun r1 s2 =>
    if r1 = 0 then
    (some ((-1), s2))
    else
    (mX12_rain_20 (mX12_rain_112) FU v1 (-9) 0 0 s2)

def mX12_divisor_4 : Nat → Int32 → Int32 → St → Option (Int32 × St)
  | 0, _, _, _ => none
  | n + 1, v2, v3, σ => if v3 = 0 then
    (some (v2, σ))
    else
    (gd (¬ v3 = 0) <|
    lt (i_rem v2 v3) fun x2 =>
    mX12_divisor_4 n v3 x2 σ)
def mX12_divisor (v0 : Int32) (v1 : Int32) (σ : St) : Option (Int32 × St) :=
  mX12_divisor_4 FU v0 v1 σ

def mX12_feet_130 (v4 : Int32) (v7 : Int32) (v8 : Int32) (σ : St) : Option (Int32 × St) :=
  bd (mX12_divisor v8 v7 σ) fun r22 s23 =>
    if v4 = 0 then
    (gd (¬ r22 = 0) <|
    some ((v8 / r22), s23))
    else
    (gd (¬ r22 = 0) <|
    some ((v7 / r22), s23))
def mX12_feet_124 (k130 : Int32 → Int32 → Int32 → St → Option (Int32 × St)) (rc : Int32 → Int32 → Int32 → Int32 → Int32 → Int32 → Int32 → St → Option (Int32 × St)) (v1 : Int32) (v4 : Int32) (v5 : Int32) (v6 : Int32) (v7 : Int32) (v8 : Int32) (v9 : Int32) (σ : St) : Option (Int32 × St) :=
  lt (v9 + 1) fun x30 =>
    rc v1 v4 v5 v6 v7 v8 x30 σ
def mX12_feet_121 (k130 : Int32 → Int32 → Int32 → St → Option (Int32 × St)) (rc : Int32 → Int32 → Int32 → Int32 → Int32 → Int32 → Int32 → St → Option (Int32 × St)) (v1 : Int32) (v4 : Int32) (v5 : Int32) (v6 : Int32) (v7 : Int32) (v9 : Int32) (t0 : Int32) (t1 : Int32) (σ : St) : Option (Int32 × St) :=
  lt (t1 + t0) fun x38 =>
    mX12_feet_124 k130 rc v1 v4 v5 v6 v7 x38 v9 σ
def mX12_feet_76 (k130 : Int32 → Int32 → Int32 → St → Option (Int32 × St)) : Nat → Int32 → Int32 → Int32 → Int32 → Int32 → Int32 → Int32 → St → Option (Int32 × St)
  | 0, _, _, _, _, _, _, _, _ => none
  | n + 1, v1, v4, v5, v6, v7, v8, v9, σ => if v9 < 4 then
    (bd (mX12_isEdge v5 v9 σ) fun r27 s28 =>
    if r27 = 0 then
    (lt (v7 + 1) fun x31 =>
    bd (mX12_beside v5 v9 s28) fun r32 s33 =>
    bd (mX12_endOf v1 r32 s33) fun r35 s36 =>
    if r35 = v6 then
    (mX12_feet_121 k130 (mX12_feet_76 k130 n) v1 v4 v5 v6 x31 v9 1 v8 s36)
    else
    (mX12_feet_121 k130 (mX12_feet_76 k130 n) v1 v4 v5 v6 x31 v9 0 v8 s36))
    else
    (mX12_feet_124 k130 (mX12_feet_76 k130 n) v1 v4 v5 v6 v7 v8 v9 s28))
    else
    (k130 v4 v7 v8 σ)
def mX12_feet_71 (v1 : Int32) (v4 : Int32) (v5 : Int32) (v6 : Int32) (v7 : Int32) (t0 : Int32) (σ : St) : Option (Int32 × St) :=
  mX12_feet_76 (mX12_feet_130) FU v1 v4 v5 v6 v7 t0 0 σ
def mX12_feet (v1 : Int32) (v2 : Int32) (v3 : Int32) (v4 : Int32) (σ : St) : Option (Int32 × St) :=
  bd (mX12_isKind v1 σ) fun r1 s2 =>
    if r1 = 0 then
    (some ((-1), s2))
    else
    (bd (mX12_isPair v2 s2) fun r4 s5 =>
    if r4 = 0 then
    (some ((-1), s5))
    else
    (bd (mX12_isPair v3 s5) fun r7 s8 =>
    if r7 = 0 then
    (some ((-1), s8))
    else
    (bd (mX12_in (Int32.toInt64 v4) 0 1 s8) fun r10 s11 =>
    if r10 = 0 then
    (some ((-1), s11))
    else
    (bd (mX12_bitOf v2 s11) fun r13 s14 =>
    bd (mX12_bitOf v3 s14) fun r16 s17 =>
    bd (mX12_endOf v1 r13 s17) fun r19 s20 =>
    if r19 = r16 then
    (mX12_feet_71 v1 v4 r13 r16 1 1 s20)
    else
    (mX12_feet_71 v1 v4 r13 r16 1 0 s20)))))

def mX12_apartOf_52 (rc : Int32 → Int32 → Int32 → Int32 → St → Option (Int32 × St)) (v1 : Int32) (v2 : Int32) (v4 : Int32) (t0 : Int32) (t1 : Int32) (σ : St) : Option (Int32 × St) :=
  lt (t1 ||| t0) fun x11 =>
    lt (v4 + 1) fun x12 =>
    rc v1 v2 x11 x12 σ
def mX12_apartOf_5 : Nat → Int32 → Int32 → Int32 → Int32 → St → Option (Int32 × St)
  | 0, _, _, _, _, _ => none
  | n + 1, v1, v2, v3, v4, σ => bd (mX12_cells σ) fun r1 s2 =>
    if v4 < r1 then
    (bd (mX12_rollKind v1 v4 s2) fun r4 s5 =>
    lt (s5 0 32) fun x7 =>
    bd (mX12_rollKind v2 v4 s5) fun r8 s9 =>
    if x7 = (s9 0 32) then
    (mX12_apartOf_52 (mX12_apartOf_5 n) v1 v2 v4 0 v3 s9)
    else
    (mX12_apartOf_52 (mX12_apartOf_5 n) v1 v2 v4 (i_shl 1 v4) v3 s9))
    else
    (some (v3, s2))
def mX12_apartOf (v1 : Int32) (v2 : Int32) (σ : St) : Option (Int32 × St) :=
  mX12_apartOf_5 FU v1 v2 0 0 σ

def mX12_apart (v1 : Int32) (v2 : Int32) (σ : St) : Option (Int32 × St) :=
  bd (mX12_isKind v1 σ) fun r1 s2 =>
    if r1 = 0 then
    (some ((-1), s2))
    else
    (bd (mX12_isKind v2 s2) fun r4 s5 =>
    if r4 = 0 then
    (some ((-1), s5))
    else
    (if v1 = v2 then
    (some ((-1), s5))
    else
    (bd (mX12_apartOf v1 v2 s5) fun r7 s8 =>
    some (r7, s8))))

def mX12_tellsAll_32 (rc : Int32 → Int32 → Int32 → Int32 → St → Option (Int32 × St)) (v1 : Int32) (v2 : Int32) (v4 : Int32) (t0 : Int32) (σ : St) : Option (Int32 × St) :=
  lt (v4 + 1) fun x2 =>
    rc v1 v2 t0 x2 σ
def mX12_tellsAll_31 (rc : Int32 → Int32 → Int32 → Int32 → St → Option (Int32 × St)) (v1 : Int32) (v2 : Int32) (v4 : Int32) (σ : St) : Option (Int32 × St) :=
  mX12_tellsAll_32 rc v1 v2 v4 0 σ
def mX12_tellsAll_5 : Nat → Int32 → Int32 → Int32 → Int32 → St → Option (Int32 × St)
  | 0, _, _, _, _, _ => none
  | n + 1, v1, v2, v3, v4, σ => if v4 < v2 then
    (if v3 = 0 then
    (mX12_tellsAll_31 (mX12_tellsAll_5 n) v1 v2 v4 σ)
    else
    (gd (ib v4 10) <|
    if ((σ 16 (nx v4)) &&& v1) = 0 then
    (mX12_tellsAll_31 (mX12_tellsAll_5 n) v1 v2 v4 σ)
    else
    (mX12_tellsAll_32 (mX12_tellsAll_5 n) v1 v2 v4 1 σ)))
    else
    (gd (zb v3) <|
    some (v3, σ))
def mX12_tellsAll (v1 : Int32) (v2 : Int32) (σ : St) : Option (Int32 × St) :=
  mX12_tellsAll_5 FU v1 v2 1 0 σ

def mX12_rollsOf_140 (rc : Int32 → Int32 → Int32 → Int32 → St → Option (Int32 × St)) (v1 : Int32) (v2 : Int32) (v3 : Int32) (v4 : Int32) (σ : St) : Option (Int32 × St) :=
  lt (v4 + 1) fun x4 =>
    rc v1 v2 v3 x4 σ
def mX12_rollsOf_134 (k140 : Int32 → Int32 → Int32 → Int32 → St → Option (Int32 × St)) (rc : Int32 → Int32 → Int32 → Int32 → Int32 → St → Option (Int32 × St)) (v1 : Int32) (v2 : Int32) (v3 : Int32) (v4 : Int32) (v5 : Int32) (σ : St) : Option (Int32 × St) :=
  lt (v5 + 1) fun x5 =>
    rc v1 v2 v3 v4 x5 σ
def mX12_rollsOf_127 (k134 : Int32 → Int32 → Int32 → Int32 → Int32 → St → Option (Int32 × St)) (rc : Int32 → Int32 → Int32 → Int32 → Int32 → Int32 → St → Option (Int32 × St)) (v1 : Int32) (v2 : Int32) (v4 : Int32) (v5 : Int32) (v6 : Int32) (t0 : Int32) (σ : St) : Option (Int32 × St) :=
  lt (v6 + 1) fun x10 =>
    rc v1 v2 t0 v4 v5 x10 σ
def mX12_rollsOf_126 (k134 : Int32 → Int32 → Int32 → Int32 → Int32 → St → Option (Int32 × St)) (rc : Int32 → Int32 → Int32 → Int32 → Int32 → Int32 → St → Option (Int32 × St)) (v1 : Int32) (v2 : Int32) (v3 : Int32) (v4 : Int32) (v5 : Int32) (v6 : Int32) (σ : St) : Option (Int32 × St) :=
  mX12_rollsOf_127 k134 rc v1 v2 v4 v5 v6 v3 σ
def mX12_rollsOf_121 (k134 : Int32 → Int32 → Int32 → Int32 → Int32 → St → Option (Int32 × St)) (rc : Int32 → Int32 → Int32 → Int32 → Int32 → Int32 → St → Option (Int32 × St)) (v1 : Int32) (v2 : Int32) (v4 : Int32) (v5 : Int32) (v6 : Int32) (v7 : Int32) (σ : St) : Option (Int32 × St) :=
  mX12_rollsOf_127 k134 rc v1 v2 v4 v5 v6 v7 σ
def mX12_rollsOf_76 (k134 : Int32 → Int32 → Int32 → Int32 → Int32 → St → Option (Int32 × St)) (rc : Int32 → Int32 → Int32 → Int32 → Int32 → Int32 → St → Option (Int32 × St)) (v1 : Int32) (v2 : Int32) (v3 : Int32) (v4 : Int32) (v5 : Int32) (v6 : Int32) (t0 : Int32) (t1 : Int32) (σ : St) : Option (Int32 × St) :=
  if t1 < t0 then
    (lt (((i_shl 1 v4) ||| (i_shl 1 v5)) ||| (i_shl 1 v6)) fun x6 =>
    bd (mX12_tellsAll x6 v2 σ) fun r7 s8 =>
    if r7 = 0 then
    (mX12_rollsOf_126 k134 rc v1 v2 v3 v4 v5 v6 s8)
    else
    (if v3 = (-9) then
    (mX12_rollsOf_121 k134 rc v1 v2 v4 v5 v6 x6 s8)
    else
    (if x6 < v3 then
    (mX12_rollsOf_121 k134 rc v1 v2 v4 v5 v6 x6 s8)
    else
    (mX12_rollsOf_126 k134 rc v1 v2 v3 v4 v5 v6 s8))))
    else
    (k134 v1 v2 v3 v4 v5 σ)
def mX12_rollsOf_60 (k134 : Int32 → Int32 → Int32 → Int32 → Int32 → St → Option (Int32 × St)) : Nat → Int32 → Int32 → Int32 → Int32 → Int32 → Int32 → St → Option (Int32 × St)
  | 0, _, _, _, _, _, _, _ => none
  | n + 1, v1, v2, v3, v4, v5, v6, σ => if 2 < v1 then
    (mX12_rollsOf_76 k134 (mX12_rollsOf_60 k134 n) v1 v2 v3 v4 v5 v6 v5 v6 σ)
    else
    (mX12_rollsOf_76 k134 (mX12_rollsOf_60 k134 n) v1 v2 v3 v4 v5 v6 (v5 + 1) v6 σ)
def mX12_rollsOf_58 (k140 : Int32 → Int32 → Int32 → Int32 → St → Option (Int32 × St)) (rc : Int32 → Int32 → Int32 → Int32 → Int32 → St → Option (Int32 × St)) (v1 : Int32) (v2 : Int32) (v3 : Int32) (v4 : Int32) (v5 : Int32) (t0 : Int32) (σ : St) : Option (Int32 × St) :=
  mX12_rollsOf_60 (mX12_rollsOf_134 k140 rc) FU v1 v2 v3 v4 v5 t0 σ
def mX12_rollsOf_44 (k140 : Int32 → Int32 → Int32 → Int32 → St → Option (Int32 × St)) (rc : Int32 → Int32 → Int32 → Int32 → Int32 → St → Option (Int32 × St)) (v1 : Int32) (v2 : Int32) (v3 : Int32) (v4 : Int32) (v5 : Int32) (t0 : Int32) (t1 : Int32) (σ : St) : Option (Int32 × St) :=
  if t1 < t0 then
    (if 2 < v1 then
    (mX12_rollsOf_58 k140 rc v1 v2 v3 v4 v5 0 σ)
    else
    (mX12_rollsOf_58 k140 rc v1 v2 v3 v4 v5 v5 σ))
    else
    (k140 v1 v2 v3 v4 σ)
def mX12_rollsOf_28 (k140 : Int32 → Int32 → Int32 → Int32 → St → Option (Int32 × St)) : Nat → Int32 → Int32 → Int32 → Int32 → Int32 → St → Option (Int32 × St)
  | 0, _, _, _, _, _, _ => none
  | n + 1, v1, v2, v3, v4, v5, σ => if 1 < v1 then
    (mX12_rollsOf_44 k140 (mX12_rollsOf_28 k140 n) v1 v2 v3 v4 v5 v4 v5 σ)
    else
    (mX12_rollsOf_44 k140 (mX12_rollsOf_28 k140 n) v1 v2 v3 v4 v5 (v4 + 1) v5 σ)
def mX12_rollsOf_26 (rc : Int32 → Int32 → Int32 → Int32 → St → Option (Int32 × St)) (v1 : Int32) (v2 : Int32) (v3 : Int32) (v4 : Int32) (t0 : Int32) (σ : St) : Option (Int32 × St) :=
  mX12_rollsOf_28 (mX12_rollsOf_140 rc) FU v1 v2 v3 v4 t0 σ
def mX12_rollsOf_6 : Nat → Int32 → Int32 → Int32 → Int32 → St → Option (Int32 × St)
  | 0, _, _, _, _, _ => none
  | n + 1, v1, v2, v3, v4, σ => bd (mX12_cells σ) fun r1 s2 =>
    if v4 < r1 then
    (if 1 < v1 then
    (mX12_rollsOf_26 (mX12_rollsOf_6 n) v1 v2 v3 v4 0 s2)
    else
    (mX12_rollsOf_26 (mX12_rollsOf_6 n) v1 v2 v3 v4 v4 s2))
    else
    (some (v3, s2))
def mX12_rollsOf (v1 : Int32) (v2 : Int32) (σ : St) : Option (Int32 × St) :=
  mX12_rollsOf_6 FU v1 v2 (-9) 0 σ

def mX12_rolls_54 : Nat → Int32 → Int32 → St → Option (Int32 × St)
  | 0, _, _, _ => none
  | n + 1, v1, v2, σ => if v2 < 4 then
    (bd (mX12_rollsOf v2 v1 σ) fun r1 s2 =>
    if r1 = (-9) then
    (lt (v2 + 1) fun x4 =>
    mX12_rolls_54 n v1 x4 s2)
    else
    (some (r1, s2)))
    else
    (some ((-9), σ))
def mX12_rolls_46 (v1 : Int32) (σ : St) : Option (Int32 × St) :=
  if v1 = 0 then
    (some (0, σ))
    else
    (mX12_rolls_54 FU v1 1 σ)
def mX12_rolls_40 (k46 : Int32 → St → Option (Int32 × St)) (rc : Int32 → Int32 → St → Option (Int32 × St)) (v1 : Int32) (v2 : Int32) (σ : St) : Option (Int32 × St) :=
  lt (v2 + 1) fun x5 =>
    rc v1 x5 σ
def mX12_rolls_14 (k40 : Int32 → Int32 → St → Option (Int32 × St)) : Nat → Int32 → Int32 → Int32 → St → Option (Int32 × St)
  | 0, _, _, _, _ => none
  | n + 1, v1, v2, v3, σ => if v3 < v2 then
    (bd (mX12_apartOf v2 v3 σ) fun r6 s7 =>
    gd (ib v1 10) <|
    lt (s_up s7 16 (nx v1) r6) fun s10 =>
    lt (v1 + 1) fun x11 =>
    lt (v3 + 1) fun x12 =>
    mX12_rolls_14 k40 n x11 v2 x12 s10)
    else
    (k40 v1 v2 σ)
def mX12_rolls_4 (k46 : Int32 → St → Option (Int32 × St)) : Nat → Int32 → Int32 → St → Option (Int32 × St)
  | 0, _, _, _ => none
  | n + 1, v1, v2, σ => if v2 < (σ 0 10) then
    (mX12_rolls_14 (mX12_rolls_40 k46 (mX12_rolls_4 k46 n)) FU v1 v2 0 σ)
    else
    (k46 v1 σ)
def mX12_rolls (σ : St) : Option (Int32 × St) :=
  mX12_rolls_4 (mX12_rolls_46) FU 0 0 σ

def mX12_saw (v1 : Int32) (v2 : Int32) (v3 : Int32) (σ : St) : Option (Int32 × St) :=
  bd (mX12_isKind v1 σ) fun r1 s2 =>
    if r1 = 0 then
    (some ((-1), s2))
    else
    (bd (mX12_isPair v2 s2) fun r4 s5 =>
    if r4 = 0 then
    (some ((-1), s5))
    else
    (bd (mX12_isPair v3 s5) fun r7 s8 =>
    if r7 = 0 then
    (some ((-1), s8))
    else
    (if (s8 0 15) = 6 then
    (some ((-3), s8))
    else
    (gd (ib (3 * (s8 0 15)) 18) <|
    lt (s_up s8 10 (nx (3 * (s8 0 15))) v1) fun s11 =>
    bd (mX12_bitOf v2 s11) fun r12 s13 =>
    gd (ib ((3 * (s11 0 15)) + 1) 18) <|
    lt (s_up s13 10 (nx ((3 * (s11 0 15)) + 1)) r12) fun s16 =>
    bd (mX12_bitOf v3 s16) fun r17 s18 =>
    gd (ib ((3 * (s16 0 15)) + 2) 18) <|
    lt (s_up s18 10 (nx ((3 * (s16 0 15)) + 2)) r17) fun s21 =>
    lt (s_up s21 0 15 ((s21 0 15) + 1)) fun s22 =>
    some ((s22 0 15), s22)))))

def mX12_forget (σ : St) : Option (Int32 × St) :=
  lt (σ 0 15) fun x1 =>
    lt (s_up σ 0 15 0) fun s2 =>
    some (x1, s2)

def mX12_moved_160 (v1 : Int32) (v2 : Int32) (v3 : Int32) (σ : St) : Option (Int32 × St) :=
  if v1 = 0 then
    (some (v2, σ))
    else
    (some (v3, σ))
def mX12_moved_154 (k160 : Int32 → Int32 → Int32 → St → Option (Int32 × St)) (rc : Int32 → Int32 → Int32 → Int32 → St → Option (Int32 × St)) (v1 : Int32) (v2 : Int32) (v3 : Int32) (v4 : Int32) (σ : St) : Option (Int32 × St) :=
  lt (v4 + 1) fun x9 =>
    rc v1 v2 v3 x9 σ
def mX12_moved_146 (k154 : Int32 → Int32 → Int32 → Int32 → St → Option (Int32 × St)) (rc : Int32 → Int32 → Int32 → Int32 → Int32 → Int32 → St → Option (Int32 × St)) (v1 : Int32) (v3 : Int32) (v4 : Int32) (v5 : Int32) (v6 : Int32) (t0 : Int32) (t1 : Int32) (σ : St) : Option (Int32 × St) :=
  lt (t1 + t0) fun x18 =>
    lt (v6 + 1) fun x19 =>
    rc v1 x18 v3 v4 v5 x19 σ
def mX12_moved_134 (k154 : Int32 → Int32 → Int32 → Int32 → St → Option (Int32 × St)) (rc : Int32 → Int32 → Int32 → Int32 → Int32 → Int32 → St → Option (Int32 × St)) (v1 : Int32) (v2 : Int32) (v4 : Int32) (v5 : Int32) (v6 : Int32) (v8 : Int32) (t0 : Int32) (σ : St) : Option (Int32 × St) :=
  if v8 = 0 then
    (mX12_moved_146 k154 rc v1 t0 v4 v5 v6 0 v2 σ)
    else
    (mX12_moved_146 k154 rc v1 t0 v4 v5 v6 1 v2 σ)
def mX12_moved_133 (k154 : Int32 → Int32 → Int32 → Int32 → St → Option (Int32 × St)) (rc : Int32 → Int32 → Int32 → Int32 → Int32 → Int32 → St → Option (Int32 × St)) (v1 : Int32) (v2 : Int32) (v3 : Int32) (v4 : Int32) (v5 : Int32) (v6 : Int32) (v8 : Int32) (σ : St) : Option (Int32 × St) :=
  mX12_moved_134 k154 rc v1 v2 v4 v5 v6 v8 v3 σ
def mX12_moved_96 (k154 : Int32 → Int32 → Int32 → Int32 → St → Option (Int32 × St)) (rc : Int32 → Int32 → Int32 → Int32 → Int32 → Int32 → St → Option (Int32 × St)) (v1 : Int32) (v2 : Int32) (v3 : Int32) (v4 : Int32) (v5 : Int32) (v6 : Int32) (t0 : Int32) (σ : St) : Option (Int32 × St) :=
  gd (ib (1 + v4) 5019) <|
    lt (s_up σ 1 (nx (1 + v4)) v5) fun s17 =>
    if t0 = 0 then
    (mX12_moved_133 k154 rc v1 v2 v3 v4 v5 v6 t0 s17)
    else
    (if v2 = 0 then
    (bd (mX12_pairOf v4 s17) fun r20 s21 =>
    mX12_moved_134 k154 rc v1 v2 v4 v5 v6 t0 ((10 * r20) + v6) s21)
    else
    (mX12_moved_133 k154 rc v1 v2 v3 v4 v5 v6 t0 s17))
def mX12_moved_95 (k154 : Int32 → Int32 → Int32 → Int32 → St → Option (Int32 × St)) (rc : Int32 → Int32 → Int32 → Int32 → Int32 → Int32 → St → Option (Int32 × St)) (v1 : Int32) (v2 : Int32) (v3 : Int32) (v4 : Int32) (v5 : Int32) (v6 : Int32) (σ : St) : Option (Int32 × St) :=
  mX12_moved_96 k154 rc v1 v2 v3 v4 v5 v6 0 σ
def mX12_moved_43 (k154 : Int32 → Int32 → Int32 → Int32 → St → Option (Int32 × St)) : Nat → Int32 → Int32 → Int32 → Int32 → Int32 → Int32 → St → Option (Int32 × St)
  | 0, _, _, _, _, _, _, _ => none
  | n + 1, v1, v2, v3, v4, v5, v6, σ => if v6 < 2 then
    (lt ((v5 + (2 * v6)) - 1) fun x10 =>
    gd (ib (1 + v4) 5019) <|
    lt (s_up σ 1 (nx (1 + v4)) x10) fun s12 =>
    bd (mX12_in (Int32.toInt64 x10) 0 9 s12) fun r13 s14 =>
    if r13 = 0 then
    (mX12_moved_95 k154 (mX12_moved_43 k154 n) v1 v2 v3 v4 v5 v6 s14)
    else
    (bd (mX12_isSo s14) fun r23 s24 =>
    if r23 = 0 then
    (mX12_moved_95 k154 (mX12_moved_43 k154 n) v1 v2 v3 v4 v5 v6 s24)
    else
    (mX12_moved_96 k154 (mX12_moved_43 k154 n) v1 v2 v3 v4 v5 v6 1 s24)))
    else
    (k154 v1 v2 v3 v4 σ)
def mX12_moved_20 (k160 : Int32 → Int32 → Int32 → St → Option (Int32 × St)) : Nat → Int32 → Int32 → Int32 → Int32 → St → Option (Int32 × St)
  | 0, _, _, _, _, _ => none
  | n + 1, v1, v2, v3, v4, σ => bd (mX12_cells σ) fun r4 s5 =>
    if v4 < r4 then
    (gd (ib (1 + v4) 5019) <|
    lt (s5 1 (nx (1 + v4))) fun x8 =>
    mX12_moved_43 (mX12_moved_154 k160 (mX12_moved_20 k160 n)) FU v1 v2 v3 v4 x8 0 s5)
    else
    (k160 v1 v2 v3 s5)
def mX12_moved (v1 : Int32) (σ : St) : Option (Int32 × St) :=
  bd (mX12_in (Int32.toInt64 v1) 0 1 σ) fun r1 s2 =>
    if r1 = 0 then
    (some ((-1), s2))
    else
    (mX12_moved_20 (mX12_moved_160) FU v1 0 (-9) 0 s2)

def mX12_markOfCell (v1 : Int32) (σ : St) : Option (Int32 × St) :=
  lt (s_upl σ 0 ((l_mk (σ 0 100) (σ 0 101)) + 1)) fun s1 =>
    gd (ib (1 + v1) 5019) <|
    some ((s1 1 (nx (1 + v1))), s1)

def mX12_markOf (v1 : Int32) (v2 : Int32) (σ : St) : Option (Int32 × St) :=
  if v1 = 0 then
    (lt (s_upl σ 0 ((l_mk (σ 0 100) (σ 0 101)) + 1)) fun s1 =>
    gd (ib (1 + v2) 5019) <|
    some ((s1 1 (nx (1 + v2))), s1))
    else if v1 = 1 then
    (lt (s_upl σ 0 ((l_mk (σ 0 100) (σ 0 101)) + 10)) fun s3 =>
    bd (mX12_markOfCell v2 s3) fun r4 s5 =>
    bd (mX12_shutWays v2 s5) fun r7 s8 =>
    bd (mX12_bits r7 s8) fun r10 s11 =>
    some ((r4 + r10), s11))
    else if v1 = 2 then
    (lt (s_upl σ 0 ((l_mk (σ 0 100) (σ 0 101)) + 100)) fun s13 =>
    bd (mX12_markOfCell v2 s13) fun r14 s15 =>
    bd (mX12_liesOn v2 s15) fun r17 s18 =>
    some ((r14 - r17), s18))
    else if v1 = 3 then
    (lt (s_upl σ 0 ((l_mk (σ 0 100) (σ 0 101)) + 1010)) fun s20 =>
    bd (mX12_markOfCell v2 s20) fun r21 s22 =>
    bd (mX12_shutWays v2 s22) fun r24 s25 =>
    bd (mX12_bits r24 s25) fun r27 s28 =>
    some ((2 * (r21 + r27)), s28))
    else if v1 = 4 then
    (lt (s_upl σ 0 ((l_mk (σ 0 100) (σ 0 101)) + 10100)) fun s30 =>
    bd (mX12_markOfCell v2 s30) fun r31 s32 =>
    bd (mX12_liesOn v2 s32) fun r34 s35 =>
    gd (ib (61 + v2) 5019) <|
    some (((r31 - r34) + (s35 1 (nx (61 + v2)))), s35))
    else 
    (lt (s_upl σ 0 ((l_mk (σ 0 100) (σ 0 101)) + 100000)) fun s38 =>
    bd (mX12_markOfCell v2 s38) fun r39 s40 =>
    gd (ib v2 30) <|
    some ((r39 + (s40 5 (nx v2))), s40))

def mX12_mark (v1 : Int32) (v2 : Int32) (v3 : Int32) (σ : St) : Option (Int32 × St) :=
  bd (mX12_in (Int32.toInt64 v1) 0 5 σ) fun r1 s2 =>
    if r1 = 0 then
    (some ((-1000000), s2))
    else
    (bd (mX12_isCell v2 v3 s2) fun r4 s5 =>
    if r4 = 0 then
    (some ((-1000000), s5))
    else
    (bd (mX12_bit v2 v3 s5) fun r7 s8 =>
    bd (mX12_markOf v1 r7 s8) fun r10 s11 =>
    some (r10, s11)))

def mX12_copyRow_2 : Nat → Int32 → Int32 → Int32 → St → Option (Int32 × St)
  | 0, _, _, _, _ => none
  | n + 1, v1, v2, v3, σ => if v3 < 1673 then
    (gd (ib (v1 + v3) 5019) <|
    gd (ib (v2 + v3) 5019) <|
    lt (s_up σ 1 (nx (v2 + v3)) (σ 1 (nx (v1 + v3)))) fun s3 =>
    lt (v3 + 1) fun x4 =>
    mX12_copyRow_2 n v1 v2 x4 s3)
    else
    (some (0, σ))
def mX12_copyRow (v1 : Int32) (v2 : Int32) (σ : St) : Option (Int32 × St) :=
  mX12_copyRow_2 FU v1 v2 0 σ

def mX12_keep (v1 : Int32) (σ : St) : Option (Int32 × St) :=
  bd (mX12_in (Int32.toInt64 v1) 0 1 σ) fun r1 s2 =>
    if r1 = 0 then
    (some ((-1), s2))
    else
    (bd (mX12_copyRow 0 (1673 * (1 + v1)) s2) fun r4 s5 =>
    gd (ib v1 2) <|
    lt (s_up s5 2 (nx v1) 1) fun s8 =>
    bd (mX12_lying s8) fun r9 s10 =>
    some (r9, s10))

def mX12_back (v1 : Int32) (σ : St) : Option (Int32 × St) :=
  bd (mX12_in (Int32.toInt64 v1) 0 1 σ) fun r1 s2 =>
    if r1 = 0 then
    (some ((-1), s2))
    else
    (gd (ib v1 2) <|
    if (s2 2 (nx v1)) = 0 then
    (some ((-2), s2))
    else
    (bd (mX12_copyRow (1673 * (1 + v1)) 0 s2) fun r5 s6 =>
    bd (mX12_lying s6) fun r8 s9 =>
    some (r8, s9)))

def mX12_count (v1 : Int32) (σ : St) : Option (Int32 × St) :=
  if v1 = 0 then
    (some ((σ 0 4), σ))
    else if v1 = 1 then
    (some ((σ 0 5), σ))
    else if v1 = 2 then
    (some ((σ 0 8), σ))
    else if v1 = 3 then
    (some ((σ 0 10), σ))
    else if v1 = 4 then
    (some ((σ 0 15), σ))
    else if v1 = 5 then
    (gd (ib 0 5019) <|
    some ((σ 1 (nx 0)), σ))
    else if v1 = 6 then
    (some ((σ 0 3), σ))
    else 
    (some ((-1), σ))

def mX12_trace (σ : St) : Option (Int64 × St) :=
  some ((l_mk (σ 0 100) (σ 0 101)), σ)

/-! pure: cells, ways, sides; the reference's small methods -/
def edge (w h i v : Nat) : Bool := if v = 0 then i / w == 0 else if v = 1 then i % w == w - 1 else if v = 2 then i / w == h - 1 else i % w == 0
def nbr (w i v : Nat) : Nat := if v = 0 then i - w else if v = 1 then i + 1 else if v = 2 then i + w else i - 1
def sid (w i v : Nat) : Nat := if v = 1 then 2 * i else if v = 2 then 2 * i + 1 else if v = 3 then 2 * (i - 1) else 2 * (i - w) + 1
theorem four {v : Nat} (h : v < 4) : v = 0 ∨ v = 1 ∨ v = 2 ∨ v = 3 := by omega
theorem div_lt_of {w h i : Nat} (hi : i < w * h) : i / w < h := Nat.div_lt_of_lt_mul hi
theorem beq_z1 {a b : Nat} : (if a = b then (1 : Int32) else 0) = z1 (a == b) := by
  unfold z1
  by_cases h : a = b <;> simp [h]
theorem beq_z1n {a b : Nat} : (if a = b then nI 1 else nI 0) = z1 (a == b) := beq_z1
theorem some_if {c : Prop} [Decidable c] {a b : Int32} {τ : St} : (if c then some (a, τ) else some (b, τ)) = some (if c then a else b, τ) := by split <;> rfl
section
variable {τ : St} {w h : Nat}
theorem m_isEdge (hW : τ 0 4 = nI w) (hH : τ 0 5 = nI h) (w1 : 0 < w) (w2 : w ≤ 6) (h1 : 0 < h) (h2 : h ≤ 5) {i v : Nat} (hi : i < w * h) (hv : v < 4) : mX12_isEdge (nI i) (nI v) τ = some (z1 (edge w h i v), τ) := by
  have hw30 : w * h ≤ 30 := Nat.mul_le_mul w2 h2
  have hd := div_lt_of hi
  have hm := Nat.mod_lt i w1
  unfold mX12_isEdge
  have nz : ¬ nI w = 0 := nI_nz w1 (by omega)
  simp only [hW, hH, gd_t nz, lt_t, rem_nI (show i < 2 ^ 31 by omega) w1 (by omega), div_nI (show i < 2 ^ 31 by omega) w1 (by omega)]
  simp only [li0, li1, li2, some_if]
  rw [sub_nI (by omega), sub_nI (by omega)]
  rcases four hv with rfl | rfl | rfl | rfl <;> simp +decide (disch := omega) only [nI_inj, edge, if_true, if_false, reduceIte, beq_z1n]
end
def kbit (m k : Nat) : Bool := m / 2 ^ k % 2 == 1
def kerb (kE kS s : Nat) : Bool := kbit (if s % 2 = 0 then kE else kS) (s / 2)
def plk (pb : Nat → Nat) (s : Nat) : Bool := kbit (pb (s / 2)) (s % 2)
def tr (t : Nat) : Int32 := if t = 99 then -9 else nI t
def shutA (w h kE kS : Nat) (pb : Nat → Nat) (t1 t2 i v : Nat) : Bool := edge w h i v || (kerb kE kS (sid w i v) || (plk pb (sid w i v) || (sid w i v == t1 || sid w i v == t2)))
/-- the reference's city -/
def MC (τ : St) (w h kE kS : Nat) : Prop := τ 0 4 = nI w ∧ τ 0 5 = nI h ∧ τ 6 0 = nI kE ∧ τ 6 1 = nI kS ∧ 0 < w ∧ w ≤ 6 ∧ 0 < h ∧ h ≤ 5 ∧ kE < 2 ^ 30 ∧ kS < 2 ^ 30
/-- the reference's row of what lies, with the planks -/
def MP (τ : St) (li pb : Nat → Nat) : Prop := ∀ i, i < 30 → τ 1 (31 + i) = nI (li i + 1048576 * pb i) ∧ li i < 1048576 ∧ pb i < 4
theorem tr_eq {s t : Nat} (hs : s < 99) (ht : t ≤ 99) : (nI s = tr t) = (s = t) := by
  unfold tr
  split
  · rename_i h
    subst h
    refine propext ⟨fun e => ?_, fun e => by omega⟩
    exfalso
    have h1 := congrArg Int32.toInt e
    rw [nI_toInt (by omega)] at h1
    have h2 : (-9 : Int32).toInt = -9 := by decide
    omega
  · exact nI_inj (by omega) (by omega)
theorem not_edge0 {w h i : Nat} (he : edge w h i 0 = false) : w ≤ i := by
  simp only [edge, if_true, beq_eq_false_iff_ne, ne_eq] at he
  rcases Nat.lt_or_ge i w with h1 | h1
  · exact absurd (Nat.div_eq_of_lt h1) he
  · exact h1
theorem not_edge3 {w h i : Nat} (he : edge w h i 3 = false) : 1 ≤ i := by
  simp +decide only [edge, if_false, beq_eq_false_iff_ne, ne_eq] at he
  rcases Nat.eq_zero_or_pos i with h1 | h1
  · subst h1; simp at he
  · exact h1
theorem sid_lt {w h i v : Nat} (hi : i < w * h) (h30 : w * h ≤ 30) : sid w i v < 60 := by
  unfold sid
  split
  · omega
  · split
    · omega
    · split <;> omega
section
variable {τ : St} {w h kE kS : Nat} {li pb : Nat → Nat}
theorem MC.n30 (C : MC τ w h kE kS) : w * h ≤ 30 := Nat.mul_le_mul C.2.2.2.2.2.1 C.2.2.2.2.2.2.2.1
theorem m_edge (C : MC τ w h kE kS) {i v : Nat} (hi : i < w * h) (hv : v < 4) : mX12_isEdge (nI i) (nI v) τ = some (z1 (edge w h i v), τ) := m_isEdge C.1 C.2.1 C.2.2.2.2.1 C.2.2.2.2.2.1 C.2.2.2.2.2.2.1 C.2.2.2.2.2.2.2.1 hi hv
theorem m_beside (C : MC τ w h kE kS) {i v : Nat} (hi : i < w * h) (hv : v < 4) (he : edge w h i v = false) : mX12_beside (nI i) (nI v) τ = some (nI (nbr w i v), τ) := by
  have h30 := C.n30
  obtain ⟨hW, hH, -, -, w1, w2, h1, h2, -⟩ := C
  unfold mX12_beside
  simp only [hW, li0, li1, li2]
  rcases four hv with rfl | rfl | rfl | rfl
  · have := not_edge0 he
    simp +decide (disch := omega) only [nI_inj, nbr, if_true, if_false, sub_nI]
  · simp +decide (disch := omega) only [nI_inj, nbr, if_true, if_false, nI_add]
  · simp +decide (disch := omega) only [nI_inj, nbr, if_true, if_false, nI_add]
  · have := not_edge3 he
    simp +decide (disch := omega) only [nI_inj, nbr, if_true, if_false, sub_nI]
theorem m_sideOf (C : MC τ w h kE kS) {i v : Nat} (hi : i < w * h) (hv : v < 4) (he : edge w h i v = false) : mX12_sideOf (nI i) (nI v) τ = some (nI (sid w i v), τ) := by
  have h30 := C.n30
  obtain ⟨hW, hH, -, -, w1, w2, h1, h2, -⟩ := C
  unfold mX12_sideOf
  simp only [hW, li1, li2, li3]
  rcases four hv with rfl | rfl | rfl | rfl
  · have := not_edge0 he
    simp +decide (disch := omega) only [nI_inj, sid, if_true, if_false, sub_nI, pk_mul, nI_add]
  · simp +decide (disch := omega) only [nI_inj, sid, if_true, if_false, nI_add, pk_mul]
  · simp +decide (disch := omega) only [nI_inj, sid, if_true, if_false, nI_add, pk_mul]
  · have := not_edge3 he
    simp +decide (disch := omega) only [nI_inj, sid, if_true, if_false, sub_nI, pk_mul]
theorem m_has {m k : Nat} (hm : m < 2 ^ 31) (hk : k < 32) : mX12_has (nI m) (nI k) τ = some (z1 (kbit m k), τ) := by
  have hb : m / 2 ^ k % 2 < 2 := Nat.mod_lt _ (by decide)
  unfold mX12_has
  rw [bit_nI hm hk]
  simp only [li0, li1, some_if]
  simp (disch := omega) only [nI_inj, beq_z1n, kbit]
theorem m_isKerb (C : MC τ w h kE kS) {s : Nat} (hs : s < 60) : mX12_isKerb (nI s) τ = some (z1 (kerb kE kS s), τ) := by
  obtain ⟨-, -, hE, hS, -, -, -, -, e1, e2⟩ := C
  have hm2 : s % 2 < 2 := Nat.mod_lt _ (by decide)
  unfold mX12_isKerb
  simp only [li2]
  rw [rem_nI (by omega) (by decide) (by decide), div_nI (by omega) (by decide) (by decide), gd_t (ib_nI hm2 (by decide)), nx_nI (by omega)]
  have e : τ 6 (s % 2) = nI (if s % 2 = 0 then kE else kS) := by
    rcases (show s % 2 = 0 ∨ s % 2 = 1 by omega) with h | h
    · rw [h, hE]; rfl
    · rw [h, hS]; rfl
  rw [e, m_has (by split <;> omega) (by omega), bd_t, gd_t (zb_z1 _)]
  rfl
theorem bit20 {l p e : Nat} (hl : l < 1048576) (he : e < 2) : (l + 1048576 * p) / 2 ^ (20 + e) % 2 = p / 2 ^ e % 2 := by
  have h1 : (2 : Nat) ^ (20 + e) = 1048576 * 2 ^ e := by rw [Nat.pow_add]
  rw [h1, ← Nat.div_div_eq_div_mul, Nat.add_mul_div_left _ _ (by decide), Nat.div_eq_of_lt hl, Nat.zero_add]
theorem m_isPlank (P : MP τ li pb) {s : Nat} (hs : s < 60) : mX12_isPlank (nI s) τ = some (z1 (plk pb s), τ) := by
  have hm2 : s % 2 < 2 := Nat.mod_lt _ (by decide)
  obtain ⟨e, hl, hp⟩ := P (s / 2) (by omega)
  unfold mX12_isPlank
  have e31 : (31 : Int32) = nI 31 := id rfl
  have e20 : (20 : Int32) = nI 20 := id rfl
  simp only [li2, e31, e20]
  rw [rem_nI (by omega) (by decide) (by decide), div_nI (by omega) (by decide) (by decide), nI_add, nI_add, gd_t (ib_nI (by omega) (by decide)), nx_nI (by omega), e, bit_nI (by omega) (by omega), bit20 hl hm2]
  have hb : pb (s / 2) / 2 ^ (s % 2) % 2 < 2 := Nat.mod_lt _ (by decide)
  simp only [li0, li1, some_if]
  simp (disch := omega) only [nI_inj, beq_z1n, plk, kbit]
theorem m_isShut (C : MC τ w h kE kS) (P : MP τ li pb) {t1 t2 : Nat} (h1 : τ 0 30 = tr t1) (h2 : τ 0 31 = tr t2) (ht1 : t1 ≤ 99) (ht2 : t2 ≤ 99) {i v : Nat} (hi : i < w * h) (hv : v < 4) : mX12_isShut (nI i) (nI v) τ = some (z1 (shutA w h kE kS pb t1 t2 i v), τ) := by
  have hs := sid_lt (v := v) hi C.n30
  unfold mX12_isShut
  rw [m_edge C hi hv, bd_t]
  unfold shutA
  cases he : edge w h i v with
  | true => rw [if_neg (by decide)]; rfl
  | false =>
    rw [if_pos z1_f, m_sideOf C hi hv he, bd_t, m_isKerb C hs, bd_t]
    cases hk : kerb kE kS (sid w i v) with
    | true => rw [if_neg (by decide)]; rfl
    | false =>
      rw [if_pos z1_f, m_isPlank P hs, bd_t]
      cases hp : plk pb (sid w i v) with
      | true => rw [if_neg (by decide)]; rfl
      | false =>
        rw [if_pos z1_f, h1, h2]
        simp only [tr_eq (show sid w i v < 99 by omega) ht1, tr_eq (show sid w i v < 99 by omega) ht2]
        by_cases q1 : sid w i v = t1
        · rw [if_pos q1, q1]; simp [z1]
        · rw [if_neg q1]
          by_cases q2 : sid w i v = t2
          · rw [if_pos q2, q2]; simp [z1]
          · rw [if_neg q2]; simp [z1, q1, q2]
end

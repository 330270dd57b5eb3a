/-! pure: what the calls that only look read; cells, kinds and pairs on both sides; one roll as a call -/
def SQu (σ σ' : St) : Prop := ∀ i j, i ≠ 59 → i ≠ 60 → σ' i j = σ i j
def MQu (τ τ' : St) : Prop := ∀ i j, ¬ (i = 0 ∧ 32 ≤ j ∧ j ≤ 34) → τ' i j = τ i j
theorem SQu.rfl' (σ : St) : SQu σ σ := fun _ _ _ _ => rfl
theorem MQu.rfl' (τ : St) : MQu τ τ := fun _ _ _ => rfl
theorem SQu.tr {a b c : St} (h : SQu a b) (k : SQu b c) : SQu a c := fun i j h1 h2 => by rw [k i j h1 h2, h i j h1 h2]
theorem MQu.tr {a b c : St} (h : MQu a b) (k : MQu b c) : MQu a c := fun i j h1 => by rw [k i j h1, h i j h1]
theorem Inv.q {σ τ σ' τ' : St} (I : Inv σ τ) (hs : SQu σ σ') (ht : MQu τ τ') : Inv σ' τ' :=
  I.fr (fun i j h => hs i j (by unfold rS at h; omega) (by unfold rS at h; omega)) (fun i j h => ht i j (by unfold rM at h; omega))
def rl (sh : Nat → Nat → Bool) (hg gr : Nat → Nat) (w size fo i : Nat) : Nat × Bool × Nat × Nat := rolA sh hg gr w size fo 10 i 4 0 (2 ^ i)
def SX (σ : St) (w h : Nat) (sh : Nat → Nat → Bool) (hg gr : Nat → Nat) (kn : Nat) (sz fo : Nat → Nat) : Prop := SR σ w (w * h) sh hg gr ∧ σ 10 1 = nI h ∧ σ 10 2 = nI (w * h) ∧ h ≤ 5 ∧ kn ≤ 5 ∧ σ 10 4 = nI kn ∧ ∀ k, k < kn → σ 15 k = nI (sz k) ∧ σ 17 k = nI (fo k) ∧ sz k ≤ 9 ∧ fo k ≤ 1
def MX (τ : St) (w h kE kS : Nat) (li pb : Nat → Nat) (t1 t2 : Nat) (hg gr : Nat → Nat) (kn : Nat) (sz fo : Nat → Nat) : Prop := (0 < w → MG τ w h kE kS li pb t1 t2 hg gr) ∧ τ 0 4 = nI w ∧ τ 0 5 = nI h ∧ w ≤ 6 ∧ h ≤ 5 ∧ kn ≤ 5 ∧ τ 0 10 = nI kn ∧ ∀ k, k < kn → τ 7 k = nI (sz k) ∧ τ 9 k = nI (fo k) ∧ sz k ≤ 9 ∧ fo k ≤ 1
theorem pos_of {w h i : Nat} (hi : i < w * h) : 0 < w := by
  rcases Nat.eq_zero_or_pos w with h1 | h1
  · subst h1; simp at hi
  · exact h1
section
variable {σ τ σ' τ' : St} {w h gn kn kE kS tl sn d t1 t2 n : Nat} {gr sz wo fo tx sk sf st hg li pb : Nat → Nat} {g : Gr} {P : Nat → Gr} {sh : Nat → Nat → Bool}
theorem SR.q (R : SR σ w n sh hg gr) (hs : ∀ i j, i = 10 ∨ i = 12 ∨ i = 13 ∨ i = 14 ∨ i = 27 ∨ i = 28 → σ' i j = σ i j) : SR σ' w n sh hg gr := by
  obtain ⟨r0, r1, r2, r3, r4, r5, r6⟩ := R
  refine ⟨r0, fun i hi => ?_, fun i v hi hv hv2 => ?_, fun i hi => ?_, fun i hi => ?_, ?_, r6⟩
  · rw [hs 12 _ (by omega), hs 28 _ (by omega)]; exact r1 i hi
  · rw [hs 14 _ (by omega)]; exact r2 i v hi hv hv2
  · rw [hs 27 _ (by omega)]; exact r3 i hi
  · rw [hs 13 _ (by omega)]; exact r4 i hi
  · rw [hs 10 _ (by omega)]; exact r5
theorem SX.q' (X : SX σ w h sh hg gr kn sz fo) (hs : ∀ i j, i = 10 ∨ (12 ≤ i ∧ i ≤ 17) ∨ i = 27 ∨ i = 28 → σ' i j = σ i j) : SX σ' w h sh hg gr kn sz fo := by
  obtain ⟨r, x1, x2, x3, x4, x5, x6⟩ := X
  refine ⟨r.q (fun i j hi => hs i j (by omega)), by rw [hs 10 _ (by omega)]; exact x1, by rw [hs 10 _ (by omega)]; exact x2, x3, x4, by rw [hs 10 _ (by omega)]; exact x5, fun k hk => ?_⟩
  rw [hs 15 _ (by omega), hs 17 _ (by omega)]; exact x6 k hk
theorem SX.q (X : SX σ w h sh hg gr kn sz fo) (hs : SQu σ σ') : SX σ' w h sh hg gr kn sz fo := X.q' (fun i j hi => hs i j (by omega) (by omega))
theorem MG.q (M : MG τ w h kE kS li pb t1 t2 hg gr) (ht : MQu τ τ') : MG τ' w h kE kS li pb t1 t2 hg gr := by
  obtain ⟨⟨c1, c2, c3, c4, c5⟩, p, ⟨q1, q2, q3⟩, g1, g2⟩ := M
  refine ⟨⟨?_, ?_, ?_, ?_, c5⟩, fun i hi => ?_, ⟨?_, ?_, q3⟩, fun i hi => ?_, fun i hi => ?_⟩
  · rw [ht _ _ (by omega)]; exact c1
  · rw [ht _ _ (by omega)]; exact c2
  · rw [ht _ _ (by omega)]; exact c3
  · rw [ht _ _ (by omega)]; exact c4
  · rw [ht _ _ (by omega)]; exact p i hi
  · rw [ht _ _ (by omega)]; exact q1
  · rw [ht _ _ (by omega)]; exact q2
  · rw [ht _ _ (by omega)]; exact g1 i hi
  · rw [ht _ _ (by omega)]; exact g2 i hi
theorem MX.q (Y : MX τ w h kE kS li pb t1 t2 hg gr kn sz fo) (ht : MQu τ τ') : MX τ' w h kE kS li pb t1 t2 hg gr kn sz fo := by
  obtain ⟨r, x1, x2, x3, x4, x5, x6, x7⟩ := Y
  refine ⟨fun hw => (r hw).q ht, by rw [ht _ _ (by omega)]; exact x1, by rw [ht _ _ (by omega)]; exact x2, x3, x4, x5, by rw [ht _ _ (by omega)]; exact x6, fun k hk => ?_⟩
  rw [ht _ _ (by omega), ht _ _ (by omega)]; exact x7 k hk
theorem SX.of (cv : CV w h gn kn kE kS gr sz wo fo tl tx sn sk sf st) (is : IS σ w h gn kn kE kS gr sz wo fo tl tx sn sk sf st) (sg : SGo σ 26 w h g d P) (V : GV w h kE kS g) : SX σ w h (shutA w h kE kS (g 5) 99 99) (g 0) gr kn sz fo := by
  refine ⟨SR.of cv is sg V, ?_⟩
  obtain ⟨c1, c2, c3, c4, c5, c6, c7, c8, c9, c10, c11⟩ := cv
  obtain ⟨b1, b2, b3, b4, b5, b6, b7, b8, b9, b10, b11⟩ := is
  exact ⟨b4, b5, by omega, c5, b7, fun k hk => ⟨(b10 k hk).1, (b10 k hk).2.2, (c7 k hk).2.1, (c7 k hk).2.2.2.2⟩⟩
theorem MX.of (cv : CV w h gn kn kE kS gr sz wo fo tl tx sn sk sf st) (im : IM τ w h gn kn kE kS gr sz wo fo tl tx sn sk sf st) (mb : MB τ 0 g d P) (V : GV w h kE kS g) : MX τ w h kE kS (g 1) (g 5) 99 99 (g 0) gr kn sz fo := by
  refine ⟨fun hw => MG.of cv im mb V hw, ?_⟩
  obtain ⟨c1, c2, c3, c4, c5, c6, c7, c8, c9, c10, c11⟩ := cv
  obtain ⟨a1, a2, a3, a4, a5, a6, a7, a8, a9, a10, a11, a12, a13, a14⟩ := im
  exact ⟨a3, a4, by omega, by omega, c5, a6, fun k hk => ⟨(a11 k hk).1, (a11 k hk).2.2, (c7 k hk).2.1, (c7 k hk).2.2.2.2⟩⟩
/-- a cell that is asked for -/
def CE (w h : Nat) (x y : Int32) (i : Nat) : Prop := ∃ a b, a < w ∧ b < h ∧ x = nI a ∧ y = nI b ∧ i = w * b + a
theorem cell_lt {a b : Nat} (ha : a < w) (hb : b < h) : w * b + a < w * h := by
  have : w * (b + 1) ≤ w * h := Nat.mul_le_mul_left w hb
  rw [Nat.mul_add] at this
  omega
theorem CE.lt {x y : Int32} {i : Nat} (c : CE w h x y i) : i < w * h := by
  obtain ⟨a, b, ha, hb, -, -, rfl⟩ := c
  exact cell_lt ha hb
theorem CE.or (w h : Nat) (x y : Int32) : (∃ i, CE w h x y i) ∨ ¬ ∃ i, CE w h x y i := Classical.em _
theorem CE.s (X : SX σ w h sh hg gr kn sz fo) {x y : Int32} {i : Nat} (c : CE w h x y i) : mX2_cellAt 10 x y σ = some (nI i, σ) := by
  obtain ⟨a, b, ha, hb, rfl, rfl, rfl⟩ := c
  exact s_cellAt_t X.1.2.2.2.2.2.1 X.2.1 X.1.2.2.2.2.2.2 X.2.2.2.1 ha hb
theorem CE.s0 (X : SX σ w h sh hg gr kn sz fo) {x y : Int32} (c : ¬ ∃ i, CE w h x y i) : mX2_cellAt 10 x y σ = some (-1, σ) :=
  s_cellAt_f X.1.2.2.2.2.2.1 X.2.1 X.1.2.2.2.2.2.2 X.2.2.2.1 (fun ⟨⟨a, ha, e1⟩, b, hb, e2⟩ => c ⟨_, a, b, ha, hb, e1, e2, rfl⟩)
theorem CE.m (Y : MX τ w h kE kS li pb t1 t2 hg gr kn sz fo) {x y : Int32} {i : Nat} (c : CE w h x y i) : mX12_isCell x y τ = some (1, τ) := by
  obtain ⟨a, b, ha, hb, rfl, rfl, rfl⟩ := c
  exact m_isCell_t Y.2.1 Y.2.2.1 Y.2.2.2.1 Y.2.2.2.2.1 ha hb
theorem CE.mb (Y : MX τ w h kE kS li pb t1 t2 hg gr kn sz fo) {x y : Int32} {i : Nat} (c : CE w h x y i) : mX12_bit x y τ = some (nI i, τ) := by
  obtain ⟨a, b, ha, hb, rfl, rfl, rfl⟩ := c
  unfold mX12_bit
  rw [Y.2.1, pk_mul, nI_add]
theorem CE.mn (Y : MX τ w h kE kS li pb t1 t2 hg gr kn sz fo) {x y : Int32} (c : ¬ ∃ i, CE w h x y i) : mX12_isCell x y τ = some (0, τ) :=
  m_isCell_f Y.2.1 Y.2.2.1 Y.2.2.2.1 Y.2.2.2.2.1 (fun ⟨⟨a, ha, e1⟩, b, hb, e2⟩ => c ⟨_, a, b, ha, hb, e1, e2, rfl⟩)
/-- a pair that is asked for -/
def PA (w h : Nat) (v : Int32) (i : Nat) : Prop := ¬ v < 0 ∧ CE w h (v / 10) (i_rem v 10) i
theorem PA.or (w h : Nat) (v : Int32) : (∃ i, PA w h v i) ∨ ¬ ∃ i, PA w h v i := Classical.em _
theorem PA.s (X : SX σ w h sh hg gr kn sz fo) {v : Int32} {i : Nat} (c : PA w h v i) : mX2_cellOfPair 10 v σ = some (nI i, σ) := by
  unfold mX2_cellOfPair
  rw [if_neg c.1, CE.s X c.2, bd_t]
theorem PA.s0 (X : SX σ w h sh hg gr kn sz fo) {v : Int32} (c : ¬ ∃ i, PA w h v i) : mX2_cellOfPair 10 v σ = some (-1, σ) := by
  unfold mX2_cellOfPair
  by_cases c1 : v < 0
  · rw [if_pos c1]
  · rw [if_neg c1, CE.s0 X (fun ⟨i, e⟩ => c ⟨i, c1, e⟩), bd_t]
theorem PA.m (Y : MX τ w h kE kS li pb t1 t2 hg gr kn sz fo) {v : Int32} {i : Nat} (c : PA w h v i) : mX12_isPair v τ = some (1, τ) := by
  unfold mX12_isPair
  rw [if_neg c.1, CE.m Y c.2, bd_t, if_neg (by decide)]
theorem PA.mb (Y : MX τ w h kE kS li pb t1 t2 hg gr kn sz fo) {v : Int32} {i : Nat} (c : PA w h v i) : mX12_bitOf v τ = some (nI i, τ) := by
  unfold mX12_bitOf
  rw [CE.mb Y c.2, bd_t]
theorem PA.mn (Y : MX τ w h kE kS li pb t1 t2 hg gr kn sz fo) {v : Int32} (c : ¬ ∃ i, PA w h v i) : mX12_isPair v τ = some (0, τ) := by
  unfold mX12_isPair
  by_cases c1 : v < 0
  · rw [if_pos c1]
  · rw [if_neg c1, CE.mn Y (fun ⟨i, e⟩ => c ⟨i, c1, e⟩), bd_t, if_pos rfl]
/-- a kind that is asked for -/
def KIK (kn : Nat) (v : Int32) (k : Nat) : Prop := k < kn ∧ v = nI k
theorem KIK.or (kn : Nat) (v : Int32) : (∃ k, KIK kn v k) ∨ ¬ ∃ k, KIK kn v k := Classical.em _
theorem KIK.s (X : SX σ w h sh hg gr kn sz fo) {v : Int32} {k : Nat} (c : KIK kn v k) : mX11_isKind v σ = some (1, σ) := by
  rw [c.2]; exact s_isKind_t X.2.2.2.2.2.1 X.2.2.2.2.1 c.1
theorem KIK.s0 (X : SX σ w h sh hg gr kn sz fo) {v : Int32} (c : ¬ ∃ k, KIK kn v k) : mX11_isKind v σ = some (0, σ) := s_isKind_f X.2.2.2.2.2.1 X.2.2.2.2.1 c
theorem KIK.m (Y : MX τ w h kE kS li pb t1 t2 hg gr kn sz fo) {v : Int32} {k : Nat} (c : KIK kn v k) : mX12_isKind v τ = some (1, τ) := by
  rw [c.2]; exact m_isKind_t Y.2.2.2.2.2.2.1 Y.2.2.2.2.2.1 c.1
theorem KIK.mn (Y : MX τ w h kE kS li pb t1 t2 hg gr kn sz fo) {v : Int32} (c : ¬ ∃ k, KIK kn v k) : mX12_isKind v τ = some (0, τ) := m_isKind_f Y.2.2.2.2.2.2.1 Y.2.2.2.2.2.1 c
/-- a coin stays in the city -/
theorem rolA_lt {size f0 : Nat} (hn : ∀ i v, i < n → v < 4 → sh i v = false → nbr w i v < n) : ∀ (f i came st pa : Nat), i < n → (rolA sh hg gr w size f0 f i came st pa).1 < n
  | 0, _, _, _, _, h => h
  | f + 1, i, came, st, pa, h => by
    unfold rolA
    split
    · exact h
    · split
      · exact h
      · rename_i h3
        have := wayA_low h3
        exact rolA_lt hn f _ _ _ _ (hn _ _ h this.2.1 this.1)
theorem SX.lt (X : SX σ w h sh hg gr kn sz fo) {size f0 i : Nat} (hi : i < w * h) : (rl sh hg gr w size f0 i).1 < w * h := rolA_lt (fun i v hi hv hs => (X.1.2.2.1 i v hi hv hs).2.1) _ _ _ _ _ hi
theorem MX.lt (Y : MX τ w h kE kS li pb t1 t2 hg gr kn sz fo) {size f0 i : Nat} (hi : i < w * h) : (rl (shutA w h kE kS pb t1 t2) hg gr w size f0 i).1 < w * h := rolA_lt (fun i v hi hv hs => ((Y.1 (pos_of hi)).R.2.2.1 i v hi hv hs).2) _ _ _ _ _ hi
/-- the class rolls a coin of a kind -/
theorem s_goAs (X : SX σ w h sh hg gr kn sz fo) {r k i : Nat} (hr : 59 ≤ r) (hk : k < kn) (hi : i < w * h) : ∃ σ', mX8_goAs r (nI k) (nI i) σ = some (0, σ') ∧ σ' r 0 = nI (rl sh hg gr w (sz k) (fo k) i).1 ∧ σ' r 1 = z1 (rl sh hg gr w (sz k) (fo k) i).2.1 ∧ σ' r 2 = nI (rl sh hg gr w (sz k) (fo k) i).2.2.1 ∧ σ' r 3 = nI (rl sh hg gr w (sz k) (fo k) i).2.2.2 ∧ (∀ j, σ' (r + 1) j = wrl (σ (r + 1)) 0 (rolC sh hg gr w (sz k) (fo k) 10 i 4) j) ∧ ∀ a b, a ≠ r → a ≠ r + 1 → σ' a b = σ a b := by
  obtain ⟨x1, x2, x3, x4⟩ := X.2.2.2.2.2.2 k hk
  have k5 := X.2.2.2.2.1
  unfold mX8_goAs
  rw [gd_t (ib_nI (show k < 5 by omega) (by decide)), gd_t (ib_nI (show k < 5 by omega) (by decide)), nx_nI (by omega), x1, x2]
  have G := s_go X.1 (r := r) (size := sz k) (fo := fo k) hr x3 x4 hi
  have e : ∀ u : Int32, (if nI (fo k) = 1 then bd (mX8_go r (nI (sz k)) 1 (nI i) σ) (fun _ s7 => some (u, s7)) else bd (mX8_go r (nI (sz k)) 0 (nI i) σ) (fun _ s7 => some (u, s7))) = bd (mX8_go r (nI (sz k)) (nI (fo k)) (nI i) σ) (fun _ s7 => some (u, s7)) := by
    intro u
    rcases (show fo k = 0 ∨ fo k = 1 by omega) with q | q
    · rw [q, if_neg (by decide)]; rfl
    · rw [q, if_pos (show nI 1 = 1 from rfl)]; rfl
  rw [e, G, bd_t]
  exact ⟨_, rfl, g5_r0, g5_r1, g5_r2, g5_r3, fun j => g5_rc, fun a b h1 h2 => g5_o h1 h2⟩
theorem s_endsAt (X : SX σ w h sh hg gr kn sz fo) {k i dd : Nat} (hk : k < kn) (hi : i < w * h) (hd : dd < 2 ^ 31) : ∃ σ', mX11_endsAt (nI k) (nI i) (nI dd) σ = some (z1 ((rl sh hg gr w (sz k) (fo k) i).1 == dd), σ') ∧ SQu σ σ' := by
  obtain ⟨σ', e, e0, -, -, -, -, e6⟩ := s_goAs X (r := 59) (by omega) hk hi
  have l := X.lt (size := sz k) (f0 := fo k) hi
  have h30 := X.1.1
  refine ⟨σ', ?_, fun a b h1 h2 => e6 a b h1 h2⟩
  unfold mX11_endsAt
  rw [e, bd_t, e0]
  simp only [some_if]
  simp only [nI_inj (show (rl sh hg gr w (sz k) (fo k) i).1 < 2 ^ 31 by omega) hd, beq_z1]
/-- a cell as a pair -/
def pr (w i : Nat) : Nat := 10 * (i % w) + i / w
theorem pr_lt (w2 : w ≤ 6) (h2 : h ≤ 5) {i : Nat} (hi : i < w * h) : pr w i < 100 := by
  have := div_lt_of hi
  have := Nat.mod_lt i (pos_of hi)
  unfold pr
  omega
theorem s_pairOf (X : SX σ w h sh hg gr kn sz fo) {i : Nat} (hi : i < w * h) : mX2_pairOf 10 (nI i) σ = some (nI (pr w i), σ) := by
  have hw := pos_of hi
  have h6 := X.1.2.2.2.2.2.2
  have h30 := X.1.1
  unfold mX2_pairOf
  rw [X.1.2.2.2.2.2.1, if_neg (show ¬ nI w < 1 from nI_nlt (b := 1) hw (by omega)), gd_t (nI_nz hw (by omega)), gd_t (nI_nz hw (by omega)), rem_nI (by omega) hw (by omega), div_nI (by omega) hw (by omega), li10, pk_mul, nI_add]
  rfl
theorem m_pairOf (Y : MX τ w h kE kS li pb t1 t2 hg gr kn sz fo) {i : Nat} (hi : i < w * h) : mX12_pairOf (nI i) τ = some (nI (pr w i), τ) := by
  have hw := pos_of hi
  have h6 := Y.2.2.2.1
  have h30 := (Y.1 hw).1.n30
  unfold mX12_pairOf
  rw [Y.2.1, gd_t (nI_nz hw (by omega)), gd_t (nI_nz hw (by omega)), rem_nI (by omega) hw (by omega), div_nI (by omega) hw (by omega), li10, pk_mul, nI_add]
  rfl
/-- an end as it is told -/
def te (w : Nat) (r : Nat × Bool × Nat × Nat) : Nat := pr w r.1 + (if r.2.1 then 100 else 0)
theorem s_endCode (X : SX σ w h sh hg gr kn sz fo) {r : Nat × Bool × Nat × Nat} (h0 : σ 59 0 = nI r.1) (h1 : σ 59 1 = z1 r.2.1) (hr : r.1 < w * h) : mX11_endCode σ = some (nI (te w r), σ) := by
  unfold mX11_endCode te
  rw [h0, s_pairOf X hr, bd_t, h1]
  cases r.2.1 with
  | true => rw [z1_t, if_neg (by decide), show (100 : Int32) = nI 100 from rfl, nI_add, if_pos rfl]
  | false => rw [z1_f, if_pos rfl, li0, nI_add]; rfl
theorem s_endOf (X : SX σ w h sh hg gr kn sz fo) {k i : Nat} (hk : k < kn) (hi : i < w * h) : ∃ σ', mX11_endOf (nI k) (nI i) σ = some (nI (te w (rl sh hg gr w (sz k) (fo k) i)), σ') ∧ SQu σ σ' := by
  obtain ⟨σ', e, e0, e1, -, -, -, e6⟩ := s_goAs X (r := 59) (by omega) hk hi
  have l := X.lt (size := sz k) (f0 := fo k) hi
  have q : SQu σ σ' := fun a b h1 h2 => e6 a b h1 h2
  refine ⟨σ', ?_, q⟩
  unfold mX11_endOf
  rw [e, bd_t, s_endCode (X.q q) e0 e1 l, bd_t]
theorem m_rollKind (Y : MX τ w h kE kS li pb t1 t2 hg gr kn sz fo) {k i : Nat} (hk : k < kn) (hi : i < w * h) : ∃ τ', mX12_rollKind (nI k) (nI i) τ = some (0, τ') ∧ τ' 0 32 = enc (rl (shutA w h kE kS pb t1 t2) hg gr w (sz k) (fo k) i) ∧ τ' 0 33 = nI (rl (shutA w h kE kS pb t1 t2) hg gr w (sz k) (fo k) i).2.2.1 ∧ τ' 0 34 = nI (rl (shutA w h kE kS pb t1 t2) hg gr w (sz k) (fo k) i).2.2.2 ∧ MQu τ τ' := by
  obtain ⟨x1, x2, x3, x4⟩ := Y.2.2.2.2.2.2.2 k hk
  have k5 := Y.2.2.2.2.2.1
  unfold mX12_rollKind
  rw [gd_t (ib_nI (show k < 5 by omega) (by decide)), gd_t (ib_nI (show k < 5 by omega) (by decide)), nx_nI (by omega), x1, x2, m_roll (Y.1 (pos_of hi)) x3 x4 hi, bd_t]
  exact ⟨_, rfl, rfl, rfl, rfl, fun a b h1 => m3_o (by omega)⟩
theorem enc_rem {r : Nat × Bool × Nat × Nat} (h : r.1 < 100) : i_rem (enc r) 100 = nI r.1 := by
  unfold enc
  rw [show (100 : Int32) = nI 100 from rfl, rem_nI (by split <;> omega) (by decide) (by decide)]
  congr 1
  split <;> omega
theorem m_endOf (Y : MX τ w h kE kS li pb t1 t2 hg gr kn sz fo) {k i : Nat} (hk : k < kn) (hi : i < w * h) : ∃ τ', mX12_endOf (nI k) (nI i) τ = some (nI (rl (shutA w h kE kS pb t1 t2) hg gr w (sz k) (fo k) i).1, τ') ∧ MQu τ τ' := by
  obtain ⟨τ', e, e0, -, -, q⟩ := m_rollKind Y hk hi
  have l := Y.lt (size := sz k) (f0 := fo k) hi
  have h30 := (Y.1 (pos_of hi)).1.n30
  refine ⟨τ', ?_, q⟩
  unfold mX12_endOf
  rw [e, bd_t, e0, enc_rem (by omega)]
theorem m_toldEnd (Y : MX τ w h kE kS li pb t1 t2 hg gr kn sz fo) {r : Nat × Bool × Nat × Nat} (h0 : τ 0 32 = enc r) (hr : r.1 < w * h) : mX12_toldEnd τ = some (nI (te w r), τ) := by
  have h30 := (Y.1 (pos_of hr)).1.n30
  unfold mX12_toldEnd te
  rw [h0]
  unfold enc
  cases r.2.1 with
  | true =>
    have e100 : (100 : Int32) = nI 100 := id rfl
    rw [if_pos rfl, e100, if_neg (nI_nlt (by omega) (by omega)), sub_nI (by omega), Nat.add_sub_cancel, m_pairOf Y hr, bd_t, nI_add, Nat.add_comm]
  | false =>
    have e100 : (100 : Int32) = nI 100 := id rfl
    rw [if_neg Bool.false_ne_true, e100, if_pos (nI_lt (by omega) (by omega)), Nat.add_zero, m_pairOf Y hr, bd_t, Nat.add_zero]
end

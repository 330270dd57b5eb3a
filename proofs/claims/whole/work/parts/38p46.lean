/-! pure: the city; how both begin; the simulation -/
section
variable {σ τ σ' τ' : St} {tl w h gn kn kE kS : Nat} {tx gr sz wo fo ht : Nat → Nat}
theorem m_c46 {kk : St → Option (Int32 × St)} : ∀ (m N i : Nat) (τ : St), i + m = 30 → ∃ τ', mX12_fault_46 kk (N + m + 1) (nI i) τ = kk τ' ∧ (∀ j, i ≤ j → j < 30 → τ' 13 j = nI 0) ∧ ∀ a b, ¬ (a = 13 ∧ i ≤ b ∧ b < 30) → τ' a b = τ a b
  | 0, N, i, τ, e => by
    refine ⟨τ, ?_, fun j h1 h2 => by omega, fun _ _ _ => rfl⟩
    rw [show N + 0 + 1 = N + 1 from rfl, mX12_fault_46, show (30 : Int32) = nI 30 from rfl, if_neg (nI_nlt (by omega) (by omega))]
  | m + 1, N, i, τ, e => by
    obtain ⟨τ1, e1, e2, e3⟩ := m_c46 (kk := kk) m N (i + 1) (s_up τ 13 i 0) (by omega)
    refine ⟨τ1, ?_, fun j h1 h2 => ?_, fun a b hab => by rw [e3 a b (by omega), su_o (by omega)]⟩
    · rw [show N + (m + 1) + 1 = (N + m + 1) + 1 from rfl, mX12_fault_46, show (30 : Int32) = nI 30 from rfl, if_pos (nI_lt (by omega) (by omega)), gd_t (ib_nI (by omega) (by decide)), nx_nI (by omega), lt_t, lt_t, li1, nI_add]
      exact e1
    · rcases (show j = i ∨ i + 1 ≤ j by omega) with q | q
      · rw [q, e3 13 i (by omega), su_s]; rfl
      · exact e2 j q h2
theorem m_c74 {kk : St → Option (Int32 × St)} (w6 : w ≤ 6) (h5 : h ≤ 5) : ∀ (m N i : Nat) (τ : St), i + m = 30 → τ 0 4 = nI w → τ 0 5 = nI h → ∃ τ', mX12_city_74 kk (N + m + 1) (nI i) τ = kk τ' ∧ (∀ j, i ≤ j → j < 30 → τ' 4 j = (if j < w * h then τ 11 j else 0) ∧ τ' 5 j = τ 13 j) ∧ ∀ a b, ¬ ((a = 4 ∨ a = 5) ∧ i ≤ b ∧ b < 30) → τ' a b = τ a b
  | 0, N, i, τ, e, hW, hH => by
    refine ⟨τ, ?_, fun j h1 h2 => by omega, fun _ _ _ => rfl⟩
    rw [show N + 0 + 1 = N + 1 from rfl, mX12_city_74, show (30 : Int32) = nI 30 from rfl, if_neg (nI_nlt (by omega) (by omega))]
  | m + 1, N, i, τ, e, hW, hH => by
    have h30 : w * h ≤ 30 := Nat.mul_le_mul w6 h5
    obtain ⟨z, hz⟩ : ∃ z, z = if i < w * h then τ 11 i else 0 := ⟨_, rfl⟩
    obtain ⟨τ1, e1, e2, e3⟩ := m_c74 (kk := kk) w6 h5 m N (i + 1) (s_up (s_up τ 4 i z) 5 i (τ 13 i)) (by omega) (by rw [su_o (by omega), su_o (by omega)]; exact hW) (by rw [su_o (by omega), su_o (by omega)]; exact hH)
    refine ⟨τ1, ?_, fun j h1 h2 => ?_, fun a b hab => by rw [e3 a b (by omega), su_o (by omega), su_o (by omega)]⟩
    · have e8 : ∀ z, mX12_city_108 kk (mX12_city_74 kk (N + m + 1)) (nI i) z (nI i) τ = mX12_city_74 kk (N + m + 1) (nI (i + 1)) (s_up (s_up τ 4 i z) 5 i (τ 13 i)) := by
        intro z
        unfold mX12_city_108
        have G : ∀ {α : Type} (o : Option α), gd (ib (nI i) 30) o = o := fun o => gd_t (ib_nI (show i < 30 by omega) (by decide)) o
        simp only [G, nx_nI (show i < 2 ^ 31 by omega), lt_t, li1, nI_add]
        rw [su_o (σ := τ) (by omega)]
      rw [show N + (m + 1) + 1 = (N + m + 1) + 1 from rfl, mX12_city_74, show (30 : Int32) = nI 30 from rfl, if_pos (nI_lt (by omega) (by omega)), hW, hH, pk_mul, gd_t (ib_nI (by omega) (by decide)), e8, e8]
      simp only [nI_ltp (show i < 2 ^ 31 by omega) (show w * h < 2 ^ 31 by omega), nx_nI (show i < 2 ^ 31 by omega)]
      rw [← e1, hz]
      by_cases q : i < w * h
      · rw [if_pos q, if_pos q]
      · rw [if_neg q, if_neg q]
    · rcases (show j = i ∨ i + 1 ≤ j by omega) with q | q
      · rw [q, e3 4 i (by omega), e3 5 i (by omega), su_o (by omega), su_s, su_s, hz]
        exact ⟨rfl, rfl⟩
      · obtain ⟨k1, k2⟩ := e2 j q h2
        rw [k1, k2, su_o (by omega), su_o (by omega), su_o (by omega), su_o (by omega)]
        exact ⟨rfl, rfl⟩
theorem m_c129 {kk : St → Option (Int32 × St)} (hk : kn ≤ 5) : ∀ (m N k : Nat) (τ : St), k + m = kn → τ 0 10 = nI kn → ∃ τ', mX12_city_129 kk (N + m + 1) (nI k) τ = kk τ' ∧ (∀ j, k ≤ j → j < kn → τ' 7 j = τ 14 (3 * j) ∧ τ' 8 j = τ 14 (3 * j + 1) ∧ τ' 9 j = τ 14 (3 * j + 2)) ∧ ∀ a b, ¬ (7 ≤ a ∧ a ≤ 9 ∧ k ≤ b ∧ b < kn) → τ' a b = τ a b
  | 0, N, k, τ, e, h10 => by
    refine ⟨τ, ?_, fun j h1 h2 => by omega, fun _ _ _ => rfl⟩
    rw [show N + 0 + 1 = N + 1 from rfl, mX12_city_129, h10, if_neg (nI_nlt (by omega) (by omega))]
  | m + 1, N, k, τ, e, h10 => by
    obtain ⟨τ1, e1, e2, e3⟩ := m_c129 (kk := kk) hk m N (k + 1) (s_up (s_up (s_up τ 7 k (τ 14 (3 * k))) 8 k (τ 14 (3 * k + 1))) 9 k (τ 14 (3 * k + 2))) (by omega) (by rw [su_o (by omega), su_o (by omega), su_o (by omega)]; exact h10)
    refine ⟨τ1, ?_, fun j h1 h2 => ?_, fun a b hab => by rw [e3 a b (by omega), su_o (by omega), su_o (by omega), su_o (by omega)]⟩
    · have G : ∀ {α : Type} (o : Option α), gd (ib (nI k) 5) o = o := fun o => gd_t (ib_nI (show k < 5 by omega) (by decide)) o
      rw [show N + (m + 1) + 1 = (N + m + 1) + 1 from rfl, mX12_city_129, h10, if_pos (nI_lt (by omega) (by omega))]
      have u0 : (3 : Int32) * nI k = nI (3 * k) := by rw [li3, pk_mul]
      have u1 : nI (3 * k) + 1 = nI (3 * k + 1) := by rw [li1, nI_add]
      have u2 : nI (3 * k) + 2 = nI (3 * k + 2) := by rw [li2, nI_add]
      have u3 : nI k + 1 = nI (k + 1) := by rw [li1, nI_add]
      simp only [u0, u1, u2, u3, G, gd_t (ib_nI (show 3 * k < 15 by omega) (by decide)), gd_t (ib_nI (show 3 * k + 1 < 15 by omega) (by decide)), gd_t (ib_nI (show 3 * k + 2 < 15 by omega) (by decide)), nx_nI (show 3 * k < 2 ^ 31 by omega), nx_nI (show 3 * k + 1 < 2 ^ 31 by omega), nx_nI (show 3 * k + 2 < 2 ^ 31 by omega), nx_nI (show k < 2 ^ 31 by omega), lt_t]
      rw [← e1, su_o (σ := τ) (i := 14) (by omega), su_o (i := 14) (by omega), su_o (σ := τ) (i := 14) (by omega)]
    · rcases (show j = k ∨ k + 1 ≤ j by omega) with q | q
      · rw [q, e3 7 k (by omega), e3 8 k (by omega), e3 9 k (by omega)]
        refine ⟨by rw [su_o (by omega), su_o (by omega), su_s], by rw [su_o (by omega), su_s], su_s⟩
      · obtain ⟨k1, k2, k3⟩ := e2 j q h2
        rw [k1, k2, k3]
        refine ⟨by rw [su_o (by omega), su_o (by omega), su_o (by omega)], by rw [su_o (by omega), su_o (by omega), su_o (by omega)], by rw [su_o (by omega), su_o (by omega), su_o (by omega)]⟩
theorem m_in130 (v : Int32) (τ : St) : mX12_in v.toInt64 1 30 τ = some (z1 (decide (¬ v < 1 ∧ ¬ 30 < v)), τ) := m_in v 1 30 τ
theorem m_c191 {kk : St → Option (Int32 × St)} : ∀ (m N i : Nat) (τ : St), i + m = 1673 → ∃ τ', mX12_city_191 kk (N + m + 1) (nI i) τ = kk τ' ∧ (∀ j, i ≤ j → j < 1673 → τ' 1 j = if 1 ≤ j ∧ j ≤ 30 then τ 4 (j - 1) else 0) ∧ ∀ a b, ¬ (a = 1 ∧ i ≤ b ∧ b < 1673) → τ' a b = τ a b
  | 0, N, i, τ, e => by
    refine ⟨τ, ?_, fun j h1 h2 => by omega, fun _ _ _ => rfl⟩
    rw [show N + 0 + 1 = N + 1 from rfl, mX12_city_191, show (1673 : Int32) = nI 1673 from rfl, if_neg (nI_nlt (by omega) (by omega))]
  | m + 1, N, i, τ, e => by
    obtain ⟨z, hz⟩ : ∃ z, z = if 1 ≤ i ∧ i ≤ 30 then τ 4 (i - 1) else 0 := ⟨_, rfl⟩
    obtain ⟨τ1, e1, e2, e3⟩ := m_c191 (kk := kk) m N (i + 1) (s_up τ 1 i z) (by omega)
    refine ⟨τ1, ?_, fun j h1 h2 => ?_, fun a b hab => by rw [e3 a b (by omega), su_o (by omega)]⟩
    · have e8 : ∀ z, mX12_city_227 kk (mX12_city_191 kk (N + m + 1)) (nI i) z (nI i) τ = mX12_city_191 kk (N + m + 1) (nI (i + 1)) (s_up τ 1 i z) := by
        intro z
        unfold mX12_city_227
        rw [gd_t (ib_nI (by omega) (by decide)), nx_nI (by omega), lt_t, lt_t, li1, nI_add]
      rw [show N + (m + 1) + 1 = (N + m + 1) + 1 from rfl, mX12_city_191, show (1673 : Int32) = nI 1673 from rfl, if_pos (nI_lt (by omega) (by omega)), m_in130, bd_t, ← e1, hz]
      by_cases q : 1 ≤ i ∧ i ≤ 30
      · have y : ¬ nI i < 1 ∧ ¬ 30 < nI i := ⟨nI_nlt (b := 1) q.1 (by omega), nI_nlt (a := 30) q.2 (by omega)⟩
        rw [decide_eq_true y, z1_t, if_neg n10, show nI i - 1 = nI (i - 1) by rw [li1, sub_nI q.1], gd_t (ib_nI (by omega) (by decide)), nx_nI (by omega), e8, if_pos q]
      · have y : ¬ (¬ nI i < 1 ∧ ¬ 30 < nI i) := by
          rintro ⟨y1, y2⟩
          rw [show (1 : Int32) = nI 1 from rfl, nI_ltp (by omega) (by decide)] at y1
          rw [show (30 : Int32) = nI 30 from rfl, nI_ltp (by decide) (by omega)] at y2
          omega
        rw [decide_eq_false y, z1_f, if_pos rfl, e8, if_neg q]
    · rcases (show j = i ∨ i + 1 ≤ j by omega) with q | q
      · rw [q, e3 1 i (by omega), su_s, hz]
      · rw [e2 j q h2, su_o (by omega)]
/-- a new ground -/
def g00 (w h : Nat) (ht : Nat → Nat) : Gr := fun r i => if r = 0 then (if i < w * h then ht i else 0) else 0
/-- what a city may be -/
def CRW (w h gn kn kE kS : Nat) (gr sz wo fo ht : Nat → Nat) : Prop := ((w = 0 ∧ h = 0) ∨ (0 < w ∧ w ≤ 6 ∧ 0 < h ∧ h ≤ 5)) ∧ kE < 2 ^ 30 ∧ kS < 2 ^ 30 ∧ gn ≤ 4 ∧ kn ≤ 5 ∧ (∀ i, i < 30 → gr i ≤ 9) ∧ (∀ k, k < kn → 1 ≤ sz k ∧ sz k ≤ 9 ∧ 1 ≤ wo k ∧ wo k ≤ 99 ∧ fo k ≤ 1) ∧ ∀ i, i < w * h → ht i ≤ 9
theorem g00_GV (V : CRW w h gn kn kE kS gr sz wo fo ht) : GV w h kE kS (g00 w h ht) := by
  have p0 : ∀ s, plk (fun _ => 0) s = false := fun s => by unfold plk kbit; simp
  have z : ∀ r, r ≠ 0 → g00 w h ht r = fun _ => 0 := fun r hr => by funext i; unfold g00; rw [if_neg hr]
  rw [show GV w h kE kS (g00 w h ht) = GV w h kE kS (g00 w h ht) from rfl]
  unfold GV
  rw [z 5 (by decide), z 1 (by decide), z 2 (by decide), z 3 (by decide), z 4 (by decide)]
  refine ⟨fun i hi => ?_, fun i => (show 0 < 4 by decide), fun s hs => (by rw [p0] at hs; cases hs), by decide, by decide, fun i hi => ⟨Nat.zero_le _, Nat.zero_le _⟩, fun i hi => ⟨rfl, rfl⟩⟩
  show (if i < w * h then ht i else 0) ≤ 9
  split
  · rename_i q; exact V.2.2.2.2.2.2.2 i q
  · omega
theorem m_fin (V : CRW w h gn kn kE kS gr sz wo fo ht) (D : CRM τ w h gn kn kE kS gr sz wo fo ht) (h30 : τ 0 30 = -9) (h31 : τ 0 31 = -9) {k234 : St → Option (Int32 × St)} (hk : k234 = mX12_city_234) : ∃ τ', (lt (s_up τ 0 4 (τ 0 20)) fun s4 => lt (s_up s4 0 5 (s4 0 21)) fun s5 => lt (s_up s5 0 10 (s5 0 26)) fun s6 => lt (s_up s6 0 8 (s6 0 25)) fun s7 => gd (ib 0 2) <| gd (ib 0 2) <| lt (s_up s7 6 (nx 0) (s7 12 (nx 0))) fun s10 => gd (ib 1 2) <| gd (ib 1 2) <| lt (s_up s10 6 (nx 1) (s10 12 (nx 1))) fun s13 => mX12_city_74 (mX12_city_127) FU 0 s13) = some (τ 0 28, τ') ∧ IM τ' w h gn kn kE kS gr sz wo fo 0 (fun _ => 0) 0 (fun _ => 0) (fun _ => 0) (fun _ => 0) ∧ MB τ' 0 (g00 w h ht) 0 (fun _ => g00 w h ht) ∧ τ' 2 0 = 0 ∧ τ' 2 1 = 0 ∧ τ' 0 100 = τ 0 100 ∧ τ' 0 101 = τ 0 101 := by
  obtain ⟨v1, v2, v3, v4, v5, v6, v7, v8⟩ := V
  obtain ⟨d1, d2, d3, d4, d5, d6, d7, d8, d9⟩ := D
  have w6 : w ≤ 6 := by omega
  have h5 : h ≤ 5 := by omega
  obtain ⟨τ1, hτ1⟩ : ∃ τ1, τ1 = s_up (s_up (s_up (s_up (s_up (s_up τ 0 4 (nI w)) 0 5 (nI h)) 0 10 (nI kn)) 0 8 (nI gn)) 6 0 (nI kE)) 6 1 (nI kS) := ⟨_, rfl⟩
  have f1 : ∀ a b, ¬ (a = 0 ∧ (b = 4 ∨ b = 5 ∨ b = 8 ∨ b = 10)) → a ≠ 6 → τ1 a b = τ a b := fun a b h1 h2 => by rw [hτ1, su_o (by omega), su_o (by omega), su_o (by omega), su_o (by omega), su_o (by omega), su_o (by omega)]
  have g4 : τ1 0 4 = nI w := by rw [hτ1, su_o (by omega), su_o (by omega), su_o (by omega), su_o (by omega), su_o (by omega), su_s]
  have g5 : τ1 0 5 = nI h := by rw [hτ1, su_o (by omega), su_o (by omega), su_o (by omega), su_o (by omega), su_s]
  have g10 : τ1 0 10 = nI kn := by rw [hτ1, su_o (by omega), su_o (by omega), su_o (by omega), su_s]
  have g8 : τ1 0 8 = nI gn := by rw [hτ1, su_o (by omega), su_o (by omega), su_s]
  have g60 : τ1 6 0 = nI kE := by rw [hτ1, su_o (by omega), su_s]
  have g61 : τ1 6 1 = nI kS := by rw [hτ1, su_s]
  obtain ⟨τ2, a1, a2, a3⟩ := m_c74 (kk := mX12_city_127) w6 h5 30 19969 0 τ1 (by omega) g4 g5
  obtain ⟨τ3, b1, b2, b3⟩ := m_c129 (kk := mX12_city_189) v5 kn (19999 - kn) 0 τ2 (by omega) (by rw [a3 0 10 (by omega)]; exact g10)
  rw [show 19999 - kn + kn + 1 = FU by unfold FU; omega] at b1
  obtain ⟨τ4, c1, c2, c3⟩ := m_c191 (kk := k234) 1673 18326 0 τ3 (by omega)
  obtain ⟨τ5, hτ5⟩ : ∃ τ5, τ5 = s_up (s_up (s_up (s_up τ4 2 0 0) 2 1 0) 0 15 0) 0 3 0 := ⟨_, rfl⟩
  have f5 : ∀ a b, ¬ (a = 0 ∧ (b = 3 ∨ b = 15)) → ¬ (a = 2 ∧ b < 2) → τ5 a b = τ4 a b := fun a b h1 h2 => by rw [hτ5, su_o (by omega), su_o (by omega), su_o (by omega), su_o (by omega)]
  have f4 : ∀ a b, a ≠ 1 → ¬ (7 ≤ a ∧ a ≤ 9) → a ≠ 4 → a ≠ 5 → τ4 a b = τ1 a b := fun a b h1 h2 h3 h4 => by rw [c3 a b (by omega), b3 a b (by omega), a3 a b (by omega)]
  have a1' : mX12_city_74 mX12_city_127 FU 0 τ1 = mX12_city_127 τ2 := a1
  have b1' : mX12_city_127 τ2 = mX12_city_189 τ3 := b1
  have c1' : mX12_city_189 τ3 = k234 τ4 := by rw [hk]; rw [hk] at c1; exact c1
  have hh : ∀ i, i < 30 → τ4 1 (1 + i) = nI (if i < w * h then ht i else 0) := by
    intro i hi
    rw [c2 (1 + i) (by omega) (by omega), if_pos (by omega), show 1 + i - 1 = i by omega, b3 4 i (by omega), (a2 i (by omega) hi).1]
    by_cases q : i < w * h
    · rw [if_pos q, if_pos q, f1 11 i (by omega) (by omega)]; exact d8 i q
    · rw [if_neg q, if_neg q]; rfl
  have h0 : ∀ j, j < 1673 → ¬ (1 ≤ j ∧ j ≤ 30) → τ4 1 j = nI 0 := fun j h1 h2 => by rw [c2 j (by omega) h1, if_neg h2]; rfl
  refine ⟨τ5, ?_, ⟨?_, fun j hj => absurd hj (Nat.not_lt_zero j), ?_, ?_, ?_, ?_, ?_, ?_, ?_, fun i hi => ?_, fun k hk' => ?_, ?_, ?_, fun k hk' => absurd hk' (Nat.not_lt_zero k)⟩, ⟨?_, fun i hi => ?_, fun k hk' => absurd hk' (Nat.not_lt_zero k)⟩, ?_, ?_, ?_, ?_⟩
  · rw [lt_t, d1, lt_t, show s_up τ 0 4 (nI w) 0 21 = nI h by rw [su_o (by omega)]; exact d2, lt_t, show s_up (s_up τ 0 4 (nI w)) 0 5 (nI h) 0 26 = nI kn by rw [su_o (by omega), su_o (by omega)]; exact d4, lt_t, show s_up (s_up (s_up τ 0 4 (nI w)) 0 5 (nI h)) 0 10 (nI kn) 0 25 = nI gn by rw [su_o (by omega), su_o (by omega), su_o (by omega)]; exact d3, gd_t (by decide), gd_t (by decide), lt_t, show s_up (s_up (s_up (s_up τ 0 4 (nI w)) 0 5 (nI h)) 0 10 (nI kn)) 0 8 (nI gn) 12 (nx 0) = nI kE from by rw [su_o (by omega), su_o (by omega), su_o (by omega), su_o (by omega)]; exact d5, gd_t (by decide), gd_t (by decide), lt_t, show s_up (s_up (s_up (s_up (s_up τ 0 4 (nI w)) 0 5 (nI h)) 0 10 (nI kn)) 0 8 (nI gn)) 6 (nx 0) (nI kE) 12 (nx 1) = nI kS from by rw [su_o (by omega), su_o (by omega), su_o (by omega), su_o (by omega), su_o (by omega)]; exact d6]
    show mX12_city_74 mX12_city_127 FU 0 (s_up (s_up (s_up (s_up (s_up (s_up τ 0 4 (nI w)) 0 5 (nI h)) 0 10 (nI kn)) 0 8 (nI gn)) 6 0 (nI kE)) 6 1 (nI kS)) = _
    rw [← hτ1, a1', b1', c1', hk]
    unfold mX12_city_234
    rw [gd_t (by decide), lt_t, gd_t (by decide), lt_t, lt_t, lt_t]
    show some (s_up (s_up (s_up (s_up τ4 2 0 0) 2 1 0) 0 15 0) 0 3 0 0 28, s_up (s_up (s_up (s_up τ4 2 0 0) 2 1 0) 0 15 0) 0 3 0) = _
    rw [← hτ5, f5 0 28 (by omega) (by omega), f4 0 28 (by omega) (by omega) (by omega) (by omega), f1 0 28 (by omega) (by omega)]
  · rw [hτ5, su_s]; rfl
  · rw [f5 0 4 (by omega) (by omega), f4 0 4 (by omega) (by omega) (by omega) (by omega)]; exact g4
  · rw [f5 0 5 (by omega) (by omega), f4 0 5 (by omega) (by omega) (by omega) (by omega)]; exact g5
  · rw [f5 0 8 (by omega) (by omega), f4 0 8 (by omega) (by omega) (by omega) (by omega)]; exact g8
  · rw [f5 0 10 (by omega) (by omega), f4 0 10 (by omega) (by omega) (by omega) (by omega)]; exact g10
  · rw [hτ5, su_o (by omega), su_s]; rfl
  · rw [f5 6 0 (by omega) (by omega), f4 6 0 (by omega) (by omega) (by omega) (by omega)]; exact g60
  · rw [f5 6 1 (by omega) (by omega), f4 6 1 (by omega) (by omega) (by omega) (by omega)]; exact g61
  · rw [f5 5 i (by omega) (by omega), c3 5 i (by omega), b3 5 i (by omega), (a2 i (by omega) hi).2, f1 13 i (by omega) (by omega)]; exact d7 i hi
  · obtain ⟨q1, q2, q3⟩ := b2 k (by omega) hk'
    rw [f5 7 k (by omega) (by omega), f5 8 k (by omega) (by omega), f5 9 k (by omega) (by omega), c3 7 k (by omega), c3 8 k (by omega), c3 9 k (by omega), q1, q2, q3, a3 14 _ (by omega), a3 14 _ (by omega), a3 14 _ (by omega), f1 14 _ (by omega) (by omega), f1 14 _ (by omega) (by omega), f1 14 _ (by omega) (by omega)]
    exact d9 k hk'
  · rw [f5 0 30 (by omega) (by omega), f4 0 30 (by omega) (by omega) (by omega) (by omega), f1 0 30 (by omega) (by omega)]; exact h30
  · rw [f5 0 31 (by omega) (by omega), f4 0 31 (by omega) (by omega) (by omega) (by omega), f1 0 31 (by omega) (by omega)]; exact h31
  · rw [f5 1 0 (by omega) (by omega)]; exact h0 0 (by omega) (by omega)
  · rw [f5 1 _ (by omega) (by omega), f5 1 _ (by omega) (by omega), f5 1 _ (by omega) (by omega), f5 1 _ (by omega) (by omega), f5 1 _ (by omega) (by omega)]
    refine ⟨?_, h0 _ (by omega) (by omega), h0 _ (by omega) (by omega), h0 _ (by omega) (by omega), h0 _ (by omega) (by omega)⟩
    rw [show 0 + 1 + i = 1 + i by omega]
    exact hh i hi
  · rw [hτ5, su_o (by omega), su_o (by omega), su_o (by omega), su_s]
  · rw [hτ5, su_o (by omega), su_o (by omega), su_s]
  · rw [f5 0 100 (by omega) (by omega), f4 0 100 (by omega) (by omega) (by omega) (by omega), f1 0 100 (by omega) (by omega)]
  · rw [f5 0 101 (by omega) (by omega), f4 0 101 (by omega) (by omega) (by omega) (by omega), f1 0 101 (by omega) (by omega)]
theorem sw_hi {i : Nat} (h1 : 10 ≤ i) (h2 : i ≤ 17) : sw i = i + 8 := by unfold sw; rw [if_pos ⟨h1, h2⟩]
theorem sw_o {i : Nat} (h : ¬ (10 ≤ i ∧ i ≤ 25)) : sw i = i := by unfold sw; rw [if_neg (by omega), if_neg (by omega)]
theorem s_fin (V : CRW w h gn kn kE kS gr sz wo fo ht) (C : CRS σ w h gn kn kE kS gr sz wo fo ht) (r : Int32) : ∃ σ', mX11_city_44 r (s_sw σ) = some (r, σ') ∧ IS σ' w h gn kn kE kS gr sz wo fo 0 (fun _ => 0) 0 (fun _ => 0) (fun _ => 0) (fun _ => 0) ∧ SGo σ' 26 w h (g00 w h ht) 0 (fun _ => g00 w h ht) ∧ σ' 2 0 = 0 ∧ σ' 2 1 = 0 ∧ σ' 0 100 = σ 0 100 ∧ σ' 0 101 = σ 0 101 := by
  obtain ⟨v1, v2, v3, v4, v5, v6, v7, v8⟩ := V
  obtain ⟨s1, s2, s3, s4, s5, s6, s7, s8, s9, s10⟩ := C
  have h30 : w * h ≤ 30 := Nat.mul_le_mul (by omega : w ≤ 6) (by omega : h ≤ 5)
  have W : ∀ i j, 10 ≤ i → i ≤ 17 → s_sw σ i j = σ (i + 8) j := fun i j h1 h2 => by unfold s_sw; rw [sw_hi h1 h2]
  have O : ∀ i j, ¬ (10 ≤ i ∧ i ≤ 25) → s_sw σ i j = σ i j := fun i j h1 => by unfold s_sw; rw [sw_o h1]
  obtain ⟨σ1, hσ1⟩ : ∃ σ1, σ1 = s_up (s_up (s_sw σ) 26 0 0) 26 1 0 := ⟨_, rfl⟩
  have f1 : ∀ a b, ¬ (a = 26 ∧ b < 2) → σ1 a b = s_sw σ a b := fun a b hab => by rw [hσ1, su_o (by omega), su_o (by omega)]
  obtain ⟨σ2, a1, a2, a3⟩ := s_cpR 11 27 σ1 (n := 30) (Or.inl rfl)
  obtain ⟨σ3, b1, b2, b3⟩ := s_fill (r := 28) (ni := 30) (v := 0) (σ := σ2) (by decide)
  obtain ⟨σ4, c1, c2, c3⟩ := s_fill (r := 29) (ni := 30) (v := 0) (σ := σ3) (by decide)
  obtain ⟨σ5, d1, d2, d3⟩ := s_fill (r := 30) (ni := 30) (v := 0) (σ := σ4) (by decide)
  obtain ⟨σ6, e1, e2, e3⟩ := s_fill (r := 31) (ni := 30) (v := 0) (σ := σ5) (by decide)
  obtain ⟨σ7, g1, g2, g3⟩ := s_fill (r := 32) (ni := 30) (v := 0) (σ := σ6) (by decide)
  have f7 : ∀ a b, ¬ (27 ≤ a ∧ a ≤ 32) → σ7 a b = σ1 a b := fun a b hab => by rw [g3 a b (by omega), e3 a b (by omega), d3 a b (by omega), c3 a b (by omega), b3 a b (by omega), a3 a b (by omega)]
  obtain ⟨σ8, hσ8⟩ : ∃ σ8, σ8 = s_up (s_up (s_up (s_up σ7 0 1 0) 0 15 0) 2 0 0) 2 1 0 := ⟨_, rfl⟩
  have f8 : ∀ a b, ¬ (a = 0 ∧ (b = 1 ∨ b = 15)) → ¬ (a = 2 ∧ b < 2) → σ8 a b = σ7 a b := fun a b h1 h2 => by rw [hσ8, su_o (by omega), su_o (by omega), su_o (by omega), su_o (by omega)]
  have ff : ∀ a b, 10 ≤ a → a ≤ 17 → σ8 a b = σ (a + 8) b := fun a b h1 h2 => by rw [f8 a b (by omega) (by omega), f7 a b (by omega), f1 a b (by omega), W a b h1 h2]
  have z5 : g00 w h ht 5 = fun _ => 0 := by funext i; unfold g00; rw [if_neg (by decide)]
  refine ⟨σ8, ?_, ⟨?_, fun j hj => absurd hj (Nat.not_lt_zero j), ?_, ?_, ?_, ?_, ?_, ?_, fun i hi => ⟨?_, ?_, fun v hv => ?_⟩, fun k hk => ?_, fun k hk => absurd hk (Nat.not_lt_zero k)⟩, ⟨?_, ?_, fun i hi => ?_, fun k hk => absurd hk (Nat.not_lt_zero k)⟩, ?_, ?_, ?_, ?_⟩
  · unfold mX11_city_44 mX3_layOut
    rw [lt_t, lt_t, ← hσ1, a1, bd_t, b1, bd_t, c1, bd_t, d1, bd_t, e1, bd_t, g1, bd_t, bd_t, lt_t, lt_t, show FU = 19997 + 1 + 1 + 1 from rfl, mX11_city_67, if_pos (by decide), gd_t (by decide), lt_t, lt_t, mX11_city_67, if_pos (by decide), gd_t (by decide), lt_t, lt_t, mX11_city_67, if_neg (by decide), hσ8]
    rfl
  · rw [hσ8, su_o (by omega), su_o (by omega), su_o (by omega), su_s]; rfl
  · rw [ff 10 0 (by omega) (by omega)]; exact s1
  · rw [ff 10 1 (by omega) (by omega)]; exact s2
  · rw [ff 10 2 (by omega) (by omega)]; exact s3
  · rw [ff 10 3 (by omega) (by omega)]; exact s4
  · rw [ff 10 4 (by omega) (by omega)]; exact s5
  · rw [hσ8, su_o (by omega), su_o (by omega), su_s]; rfl
  · rw [ff 12 i (by omega) (by omega)]; exact s6 i hi
  · rw [ff 13 i (by omega) (by omega)]; exact s7 i hi
  · rw [ff 14 _ (by omega) (by omega)]; exact s9 i hi v hv
  · rw [ff 15 k (by omega) (by omega), ff 16 k (by omega) (by omega), ff 17 k (by omega) (by omega)]; exact s10 k hk
  · rw [f8 26 0 (by omega) (by omega), f7 26 0 (by omega), hσ1, su_o (by omega), su_s, z5]; decide
  · rw [f8 26 1 (by omega) (by omega), f7 26 1 (by omega), hσ1, su_s]; rfl
  · have pw : pway w h (g00 w h ht 5) i 4 = 0 := by
      rw [z5, pway_B4, B4_ext (f' := fun _ => false) (fun u _ => ?_)]
      · rfl
      · unfold pf plk kbit; simp
    refine ⟨?_, ?_, ?_, ?_, ?_, ?_⟩
    · rw [f8 27 i (by omega) (by omega), g3 27 i (by omega), e3 27 i (by omega), d3 27 i (by omega), c3 27 i (by omega), b3 27 i (by omega), a2 i (by omega), f1 11 i (by omega), W 11 i (by omega) (by omega)]
      show _ = nI (if i < w * h then ht i else 0)
      rw [if_pos hi]; exact s8 i hi
    · rw [pw, f8 28 i (by omega) (by omega), g3 28 i (by omega), e3 28 i (by omega), d3 28 i (by omega), c3 28 i (by omega), b2 i (by omega)]; rfl
    · rw [f8 29 i (by omega) (by omega), g3 29 i (by omega), e3 29 i (by omega), d3 29 i (by omega), c2 i (by omega)]; rfl
    · rw [f8 30 i (by omega) (by omega), g3 30 i (by omega), e3 30 i (by omega), d2 i (by omega)]; rfl
    · rw [f8 31 i (by omega) (by omega), g3 31 i (by omega), e2 i (by omega)]; rfl
    · rw [f8 32 i (by omega) (by omega), g2 i (by omega)]; rfl
  · rw [hσ8, su_o (by omega), su_s]
  · rw [hσ8, su_s]
  · rw [f8 0 100 (by omega) (by omega), f7 0 100 (by omega), f1 0 100 (by omega), O 0 100 (by omega)]
  · rw [f8 0 101 (by omega) (by omega), f7 0 101 (by omega), f1 0 101 (by omega), O 0 101 (by omega)]
theorem s_wipe : ∃ σ', mX2_wipe 18 σ = some (0, σ') ∧ C0S σ' ∧ ∀ a b, ¬ (18 ≤ a ∧ a ≤ 21) → σ' a b = σ a b := by
  obtain ⟨σ1, hσ1⟩ : ∃ σ1, σ1 = s_up (s_up (s_up (s_up (s_up σ 18 0 0) 18 1 0) 18 2 0) 18 3 0) 18 4 0 := ⟨_, rfl⟩
  obtain ⟨σ2, a1, a2, a3⟩ := s_fill (r := 20) (ni := 30) (v := 0) (σ := σ1) (by decide)
  obtain ⟨σ3, b1, b2, b3⟩ := s_fill (r := 21) (ni := 30) (v := 0) (σ := σ2) (by decide)
  have f : ∀ b, σ3 18 b = σ1 18 b := fun b => by rw [b3 18 b (by omega), a3 18 b (by omega)]
  refine ⟨σ3, ?_, ⟨?_, ?_, fun i hi => ⟨?_, ?_⟩, ?_, ?_, ?_⟩, fun a b hab => by rw [b3 a b (by omega), a3 a b (by omega), hσ1, su_o (by omega), su_o (by omega), su_o (by omega), su_o (by omega), su_o (by omega)]⟩
  · unfold mX2_wipe
    rw [lt_t, lt_t, lt_t, lt_t, lt_t, ← hσ1, show (18 + 2 : Nat) = 20 from rfl, show (18 + 3 : Nat) = 21 from rfl, a1, bd_t, b1, bd_t]
  · rw [f, hσ1, su_o (by omega), su_s]; rfl
  · rw [f, hσ1, su_s]; rfl
  · rw [b3 20 i (by omega), a2 i hi]; rfl
  · rw [b2 i hi]; rfl
  · rw [f, hσ1, su_o (by omega), su_o (by omega), su_o (by omega), su_o (by omega), su_s]; rfl
  · rw [f, hσ1, su_o (by omega), su_o (by omega), su_o (by omega), su_s]; rfl
  · rw [f, hσ1, su_o (by omega), su_o (by omega), su_s]; rfl
end
theorem sm_city : Sm0 Inv mX11_city mX12_city := by
  intro σ τ I
  have I0 := I
  obtain ⟨w, h, gn, kn, kE, kS, gr, sz, wo, fo, tl, tx, sn, sk, sf, st, g, d, P, cv, im, is, ig, img, t1, t2⟩ := I
  have h200 : tl ≤ 200 := cv.2.2.2.2.2.2.2.1
  have h256 : ∀ j, j < tl → tx j < 256 := cv.2.2.2.2.2.2.2.2.1
  -- the class prepares
  obtain ⟨σ1, hσ1⟩ : ∃ σ1, σ1 = s_up (s_up (s_up (s_up σ 68 0 1) 68 1 (nI tl)) 68 2 0) 68 6 (-1) := ⟨_, rfl⟩
  have f1 : ∀ a b, a ≠ 68 → σ1 a b = σ a b := fun a b ha => by rw [hσ1, su_o (by omega), su_o (by omega), su_o (by omega), su_o (by omega)]
  obtain ⟨σ2, a1, a2, a3⟩ := s_wipe (σ := σ1)
  have eS : mX7_readText (σ 0 1) σ = mX7_readText_35 mX7_readText_80 FU 0 0 σ2 := by
    unfold mX7_readText
    rw [is.1, lt_t, show i_min (nI tl) 200 = nI tl by unfold i_min; rw [if_neg (show ¬ 200 < nI tl from nI_nlt (a := 200) h200 (by omega))], lt_t, lt_t, lt_t, ← hσ1, a1, bd_t]
  -- the reference prepares
  obtain ⟨τ1, hτ1⟩ : ∃ τ1, τ1 = s_up (s_up (s_up (s_up (s_up (s_up (s_up (s_up τ 0 17 0) 0 28 0) 0 20 0) 0 21 0) 0 25 0) 0 26 0) 12 0 0) 12 1 0 := ⟨_, rfl⟩
  have f2 : ∀ a b, ¬ (a = 0 ∧ (b = 17 ∨ b = 28 ∨ b = 20 ∨ b = 21 ∨ b = 25 ∨ b = 26)) → ¬ (a = 12 ∧ b < 2) → τ1 a b = τ a b := fun a b h1 h2 => by rw [hτ1, su_o (by omega), su_o (by omega), su_o (by omega), su_o (by omega), su_o (by omega), su_o (by omega), su_o (by omega), su_o (by omega)]
  obtain ⟨τ2, b1, b2, b3⟩ := m_c46 (kk := mX12_fault_65) 30 19969 0 τ1 (by omega)
  have TM2 : TXM τ2 tl tx := ⟨by rw [b3 0 3 (by omega), f2 0 3 (by omega) (by omega)]; exact im.1, fun j hj => by rw [b3 3 j (by omega), f2 3 j (by omega) (by omega)]; exact im.2.1 j hj, h200, h256⟩
  have k17 : τ2 0 17 = nI 0 := by rw [b3 0 17 (by omega), hτ1, su_o (by omega), su_o (by omega), su_o (by omega), su_o (by omega), su_o (by omega), su_o (by omega), su_o (by omega), su_s]; rfl
  have g := m_token TM2 k17 (Nat.zero_le tl)
  obtain ⟨τ3, hτ3⟩ : ∃ τ3, τ3 = mT τ2 (tB tl tx 0) (tE tl tx 0) := ⟨_, rfl⟩
  have fT : ∀ i j, ¬ (i = 0 ∧ 17 ≤ j ∧ j ≤ 19) → τ3 i j = τ2 i j := fun i j hij => by rw [hτ3]; exact mT_o hij
  have eM : mX12_fault τ = mX12_fault_71 mX12_fault_94 FU 1 τ3 := by
    unfold mX12_fault
    rw [lt_t, lt_t, lt_t, lt_t, lt_t, lt_t, gd_t (by decide), lt_t, gd_t (by decide), lt_t]
    show mX12_fault_46 mX12_fault_65 FU 0 (s_up (s_up (s_up (s_up (s_up (s_up (s_up (s_up τ 0 17 0) 0 28 0) 0 20 0) 0 21 0) 0 25 0) 0 26 0) 12 0 0) 12 1 0) = _
    rw [← hτ1, show mX12_fault_46 mX12_fault_65 FU 0 τ1 = mX12_fault_65 τ2 from b1]
    unfold mX12_fault_65
    rw [g, bd_t, ← hτ3]
  have D0 : C0M τ3 := by
    refine ⟨?_, ?_, ?_, ?_, fun i hi => ?_, ?_, ?_⟩
    · rw [fT 0 25 (by omega), b3 0 25 (by omega), hτ1, su_o (by omega), su_o (by omega), su_o (by omega), su_s]; rfl
    · rw [fT 0 26 (by omega), b3 0 26 (by omega), hτ1, su_o (by omega), su_o (by omega), su_s]; rfl
    · rw [fT 12 0 (by omega), b3 12 0 (by omega), hτ1, su_o (by omega), su_s]; rfl
    · rw [fT 12 1 (by omega), b3 12 1 (by omega), hτ1, su_s]; rfl
    · rw [fT 13 i (by omega)]; exact b2 i (by omega) hi
    · rw [fT 0 20 (by omega), b3 0 20 (by omega), hτ1, su_o (by omega), su_o (by omega), su_o (by omega), su_o (by omega), su_o (by omega), su_s]; rfl
    · rw [fT 0 21 (by omega), b3 0 21 (by omega), hτ1, su_o (by omega), su_o (by omega), su_o (by omega), su_o (by omega), su_s]; rfl
  have RD0 : RD σ2 τ3 tl tx 0 := by
    refine ⟨⟨?_, ?_, fun j hj => ?_, h200, h256⟩, TM2.fr (fun j => fT 3 j (by omega)) (fT 0 3 (by omega)), ?_, ?_, by rw [hτ3]; exact ⟨mT_17, mT_18, mT_19⟩, Nat.zero_le tl⟩
    · rw [a3 68 0 (by omega), hσ1, su_o (by omega), su_o (by omega), su_o (by omega), su_s]
    · rw [a3 68 1 (by omega), hσ1, su_o (by omega), su_o (by omega), su_s]
    · rw [a3 1 j (by omega), f1 1 j (by omega)]; exact is.2.1 j hj
    · rw [a3 68 2 (by omega), hσ1, su_o (by omega), su_s]; rfl
    · rw [a3 68 6 (by omega), hσ1, su_s]
  have k28 : τ3 0 28 = nI 0 := by rw [fT 0 28 (by omega), b3 0 28 (by omega), hτ1, su_o (by omega), su_o (by omega), su_o (by omega), su_o (by omega), su_o (by omega), su_o (by omega), su_s]; rfl
  have TL := text_loop (tl := tl) (tx := tx) (tl + 1) (19999 - (tl + 1)) (19999 - (tl + 1)) 0 0 σ2 τ3 (by omega) ⟨RD0, k28, Nat.le_refl 0, fun _ => ⟨a2, D0⟩, fun z => absurd z (Nat.lt_irrefl 0)⟩
  rw [show 19999 - (tl + 1) + (tl + 1) + 1 = FU by unfold FU; omega] at TL
  have gS : ∀ a b, ¬ (18 ≤ a ∧ a ≤ 25) → a ≠ 68 → σ2 a b = σ a b := fun a b h1 h2 => by rw [a3 a b (by omega), f1 a b h2]
  have gM : ∀ a b, ¬ (a = 0 ∧ 17 ≤ b ∧ b ≤ 28) → ¬ (11 ≤ a ∧ a ≤ 15) → τ3 a b = τ a b := fun a b h1 h2 => by rw [fT a b (by omega), b3 a b (by omega), f2 a b (by omega) (by omega)]
  unfold mX11_city mX12_city
  rw [eS, eM]
  rcases TL with ⟨σ3, τ4, r, d1, d2, d3, d4, d5, d6, d7, d8⟩ | ⟨σ3, τ4, q, d0, d1, d2, d7, d8⟩
  · have d1' : mX7_readText_35 mX7_readText_80 FU 0 0 σ2 = some (nI r, σ3) := d1
    rw [d1', bd_t, if_neg (nI_pos (by omega)), d2, bd_t, if_pos rfl]
    have CC : ∃ w h gn kn kE kS gr sz wo fo ht, CRW w h gn kn kE kS gr sz wo fo ht ∧ CRS σ3 w h gn kn kE kS gr sz wo fo ht ∧ CRM τ4 w h gn kn kE kS gr sz wo fo ht := by
      by_cases q : r = 0
      · obtain ⟨C0, D1⟩ := d5 q
        have n0 : ∀ i, ¬ i < 0 * 0 := fun i z => by omega
        exact ⟨0, 0, 0, 0, 0, 0, fun _ => 0, fun _ => 0, fun _ => 0, fun _ => 0, fun _ => 0, ⟨Or.inl ⟨rfl, rfl⟩, by decide, by decide, by omega, by omega, fun i _ => Nat.zero_le _, fun k hk => absurd hk (Nat.not_lt_zero k), fun i hi => absurd hi (n0 i)⟩, ⟨C0.2.2.2.1, C0.2.2.2.2.1, C0.2.2.2.2.2, C0.1, C0.2.1, fun i hi => absurd hi (n0 i), fun i hi => absurd hi (n0 i), fun i hi => absurd hi (n0 i), fun i hi => absurd hi (n0 i), fun k hk => absurd hk (Nat.not_lt_zero k)⟩, ⟨D1.2.2.2.2.2.1, D1.2.2.2.2.2.2, D1.1, D1.2.1, D1.2.2.1, D1.2.2.2.1, D1.2.2.2.2.1, fun i hi => absurd hi (n0 i), fun k hk => absurd hk (Nat.not_lt_zero k)⟩⟩
      · obtain ⟨w, h, gn, kn, kE, kS, gr, sz, wo, fo, ht, V, C1, D1⟩ := d6 (by omega)
        obtain ⟨v1, v2, v3, v4, v5, v6, v7, v8, v9, v10, v11⟩ := V
        exact ⟨w, h, gn, kn, kE, kS, gr, sz, wo, fo, ht, ⟨Or.inr ⟨v1, v2, v3, v4⟩, v5, v6, v7, v8, v9, v10, v11⟩, C1, D1⟩
    obtain ⟨w', h', gn', kn', kE', kS', gr', sz', wo', fo', ht', V, C1, D1⟩ := CC
    obtain ⟨σ4, e1, e2, e3, e4, e5, e6, e7⟩ := s_fin V C1 (nI r)
    obtain ⟨τ5, m1, m2, m3, m4, m5, m6, m7⟩ := m_fin V D1 (by rw [d8 0 30 (by omega) (by omega), gM 0 30 (by omega) (by omega)]; exact im.2.2.2.2.2.2.2.2.2.2.2.1) (by rw [d8 0 31 (by omega) (by omega), gM 0 31 (by omega) (by omega)]; exact im.2.2.2.2.2.2.2.2.2.2.2.2.1) rfl
    rw [d3] at m1
    refine ⟨nI r, σ4, τ5, e1, m1, ?_⟩
    obtain ⟨V1, V2, V3, V4, V5, V6, V7, V8⟩ := V
    refine ⟨w', h', gn', kn', kE', kS', gr', sz', wo', fo', 0, fun _ => 0, 0, fun _ => 0, fun _ => 0, fun _ => 0, g00 w' h' ht', 0, fun _ => g00 w' h' ht', ⟨V1, V2, V3, V4, V5, V6, V7, by omega, fun j hj => absurd hj (Nat.not_lt_zero j), by omega, fun k hk => absurd hk (Nat.not_lt_zero k)⟩, m2, e2, ⟨e3, m3, g00_GV ⟨V1, V2, V3, V4, V5, V6, V7, V8⟩, by omega, fun k hk => absurd hk (Nat.not_lt_zero k)⟩, fun im' him => ⟨false, ?_, ?_, fun z => by cases z⟩, ?_, ?_⟩
    · rcases (show im' = 0 ∨ im' = 1 by omega) with rfl | rfl
      · exact e4
      · exact e5
    · rcases (show im' = 0 ∨ im' = 1 by omega) with rfl | rfl
      · exact m4
      · exact m5
    · rw [e6, m6, d7 0 100 (by omega) (by omega), gS 0 100 (by omega) (by omega), d8 0 100 (by omega) (by omega), gM 0 100 (by omega) (by omega)]; exact t1
    · rw [e7, m7, d7 0 101 (by omega) (by omega), gS 0 101 (by omega) (by omega), d8 0 101 (by omega) (by omega), gM 0 101 (by omega) (by omega)]; exact t2
  · have d1' : mX7_readText_35 mX7_readText_80 FU 0 0 σ2 = some (-10 - nI q, σ3) := d1
    have neg : (-10 : Int32) - nI q < 0 := by
      have : ∀ z, z < 201 → (-10 : Int32) - nI z < 0 := by decide +kernel
      exact this q (by omega)
    rw [d1', bd_t, if_pos neg, d2, bd_t, if_neg (nI_m9 (by omega))]
    refine ⟨_, σ3, τ4, rfl, rfl, I0.fr (fun i j h => ?_) (fun i j h => ?_)⟩
    · unfold rS at h
      rw [d7 i j (by omega) (by omega), gS i j (by omega) (by omega)]
    · unfold rM at h
      rw [d8 i j (by omega) (by omega), gM i j (by omega) (by omega)]
theorem inv_start : Inv sS0 sM0 := by
  have z : ∀ i j, sS0 i j = 0 := fun i j => rfl
  have n0 : ∀ i, ¬ i < 0 * 0 := fun i q => by omega
  have gz : ∀ r i, g00 0 0 (fun _ => 0) r i = 0 := fun r i => by unfold g00; split <;> (try split) <;> rfl
  have g5 : g00 0 0 (fun _ => 0) 5 = fun _ => 0 := funext (fun i => gz 5 i)
  have CW : CRW 0 0 0 0 0 0 (fun _ => 0) (fun _ => 0) (fun _ => 0) (fun _ => 0) (fun _ => 0) := ⟨Or.inl ⟨rfl, rfl⟩, by decide, by decide, by omega, by omega, fun i _ => Nat.zero_le _, fun k hk => absurd hk (Nat.not_lt_zero k), fun i hi => absurd hi (n0 i)⟩
  have m1 : ∀ a b, a ≠ 0 → sM0 a b = 0 := fun a b ha => by unfold sM0; rw [if_neg ha]
  refine ⟨0, 0, 0, 0, 0, 0, fun _ => 0, fun _ => 0, fun _ => 0, fun _ => 0, 0, fun _ => 0, 0, fun _ => 0, fun _ => 0, fun _ => 0, g00 0 0 (fun _ => 0), 0, fun _ => g00 0 0 (fun _ => 0), ⟨Or.inl ⟨rfl, rfl⟩, by decide, by decide, by omega, by omega, fun i _ => Nat.zero_le _, fun k hk => absurd hk (Nat.not_lt_zero k), by omega, fun j hj => absurd hj (Nat.not_lt_zero j), by omega, fun k hk => absurd hk (Nat.not_lt_zero k)⟩, ⟨rfl, fun j hj => absurd hj (Nat.not_lt_zero j), rfl, rfl, rfl, rfl, rfl, rfl, rfl, fun i _ => rfl, fun k hk => absurd hk (Nat.not_lt_zero k), rfl, rfl, fun k hk => absurd hk (Nat.not_lt_zero k)⟩, ⟨rfl, fun j hj => absurd hj (Nat.not_lt_zero j), rfl, rfl, rfl, rfl, rfl, rfl, fun i hi => absurd hi (n0 i), fun k hk => absurd hk (Nat.not_lt_zero k), fun k hk => absurd hk (Nat.not_lt_zero k)⟩, ⟨⟨?_, rfl, fun i hi => absurd hi (n0 i), fun k hk => absurd hk (Nat.not_lt_zero k)⟩, ⟨rfl, fun i hi => ?_, fun k hk => absurd hk (Nat.not_lt_zero k)⟩, g00_GV CW, by omega, fun k hk => absurd hk (Nat.not_lt_zero k)⟩, fun q hq => ⟨false, rfl, ?_, fun y => by cases y⟩, rfl, rfl⟩
  · rw [g5, z]; decide
  · rw [gz, gz, gz, gz, gz, gz, m1 _ _ (by decide), m1 _ _ (by decide), m1 _ _ (by decide), m1 _ _ (by decide), m1 _ _ (by decide)]
    exact ⟨rfl, rfl, rfl, rfl, rfl⟩
  · rw [m1 _ _ (by decide)]; rfl
theorem sim_all : Sim Inv := ⟨sm_type, sm_clear, sm_city, sm_cell, sm_kind, sm_lets, sm_sets, sm_takes, sm_cobble, sm_sweep, sm_undo, sm_now, sm_end, sm_doors, sm_planks, sm_paved, sm_rain, sm_feet, sm_apart, sm_rolls, sm_saw, sm_forget, sm_moved, sm_mark, sm_keep, sm_back, sm_count, sm_trace⟩

/-! pure: a deed: what both keep of the past -/
def nd (d : Nat) : Nat := if d = 10 then 10 else d + 1
def sft (d k : Nat) : Nat := if d = 10 then k + 1 else k
def nP (d : Nat) (P : Nat → Gr) (g : Gr) : Nat → Gr := fun k => if k + 1 = nd d then g else P (sft d k)
theorem nd_le {d : Nat} (h : d ≤ 10) : 1 ≤ nd d ∧ nd d ≤ 10 := by unfold nd; split <;> omega
section
variable {σ τ σ' τ' : St} {w h gn kn kE kS tl sn d t1 t2 n B : Nat} {gr sz wo fo tx sk sf st hg li pb : Nat → Nat} {g g' : Gr} {P : Nat → Gr} {sh : Nat → Nat → Bool}
theorem m_kp9 {kk : Int32 → St → Option (Int32 × St)} : ∀ (m N i : Nat) (τ : St), i + m = 1368 → ∃ τ', mX12_keepPast_9 kk (N + m + 1) 10 (nI i) τ = kk 10 τ' ∧ (∀ j, τ' 1 j = if 153 + i ≤ j ∧ j < 1521 then τ 1 (j + 152) else τ 1 j) ∧ ∀ a j, a ≠ 1 → τ' a j = τ a j
  | 0, N, i, τ, e => by
    refine ⟨τ, ?_, fun j => by rw [if_neg (by omega)], fun _ _ _ => rfl⟩
    rw [show N + 0 + 1 = N + 1 from rfl, mX12_keepPast_9, show (1368 : Int32) = nI 1368 from rfl, if_neg (nI_nlt (by omega) (by omega))]
  | m + 1, N, i, τ, e => by
    obtain ⟨τ1, e1, e2, e3⟩ := m_kp9 (kk := kk) m N (i + 1) (s_up τ 1 (153 + i) (τ 1 (305 + i))) (by omega)
    refine ⟨τ1, ?_, fun j => ?_, fun a j ha => by rw [e3 a j ha, su_o (by omega)]⟩
    · rw [show N + (m + 1) + 1 = (N + m + 1) + 1 from rfl, mX12_keepPast_9, show (1368 : Int32) = nI 1368 from rfl, if_pos (nI_lt (by omega) (by omega)), if_pos rfl, show (305 : Int32) = nI 305 from rfl, show (153 : Int32) = nI 153 from rfl, nI_add, nI_add, gd_t (ib_nI (by omega) (by decide)), gd_t (ib_nI (by omega) (by decide)), nx_nI (by omega), nx_nI (by omega), lt_t, lt_t, li1, nI_add]
      exact e1
    · rw [e2 j]
      by_cases c : j = 153 + i
      · subst c
        rw [if_neg (by omega), if_pos (by omega), su_s]
        congr 1
        omega
      · by_cases c2 : 153 + (i + 1) ≤ j ∧ j < 1521
        · rw [if_pos c2, if_pos (by omega), su_o (by omega)]
        · rw [if_neg c2, if_neg (by omega), su_o (by omega)]
theorem m_kp64 {kk : Int32 → St → Option (Int32 × St)} {p : Nat} (hp : p < 10) : ∀ (m N i : Nat) (τ : St), i + m = 152 → ∃ τ', mX12_keepPast_64 kk (N + m + 1) (nI p) (nI i) τ = kk (nI p) τ' ∧ (∀ j, τ' 1 j = if 1 + 152 * (1 + p) + i ≤ j ∧ j < 1 + 152 * (1 + p) + 152 then τ 1 (j - 152 * (1 + p)) else τ 1 j) ∧ ∀ a j, a ≠ 1 → τ' a j = τ a j
  | 0, N, i, τ, e => by
    refine ⟨τ, ?_, fun j => by rw [if_neg (by omega)], fun _ _ _ => rfl⟩
    rw [show N + 0 + 1 = N + 1 from rfl, mX12_keepPast_64, show (152 : Int32) = nI 152 from rfl, if_neg (nI_nlt (by omega) (by omega))]
  | m + 1, N, i, τ, e => by
    obtain ⟨τ1, e1, e2, e3⟩ := m_kp64 (kk := kk) hp m N (i + 1) (s_up τ 1 (1 + 152 * (1 + p) + i) (τ 1 (1 + i))) (by omega)
    refine ⟨τ1, ?_, fun j => ?_, fun a j ha => by rw [e3 a j ha, su_o (by omega)]⟩
    · rw [show N + (m + 1) + 1 = (N + m + 1) + 1 from rfl, mX12_keepPast_64, show (152 : Int32) = nI 152 from rfl, if_pos (nI_lt (by omega) (by omega)), li1, nI_add, nI_add, pk_mul, nI_add, nI_add, lt_t, gd_t (ib_nI (by omega) (by decide)), gd_t (ib_nI (by omega) (by decide)), nx_nI (by omega), nx_nI (by omega), lt_t, lt_t, nI_add]
      exact e1
    · rw [e2 j]
      by_cases c : j = 1 + 152 * (1 + p) + i
      · subst c
        rw [if_neg (by omega), if_pos (by omega), su_s]
        congr 1
        omega
      · by_cases c2 : 1 + 152 * (1 + p) + (i + 1) ≤ j ∧ j < 1 + 152 * (1 + p) + 152
        · rw [if_pos c2, if_pos (by omega), su_o (by omega)]
        · rw [if_neg c2, if_neg (by omega), su_o (by omega)]
theorem BLK.mv {B B' : Nat} (b : BLK τ B g) (h : ∀ i, i < 150 → τ' 1 (B' + i) = τ 1 (B + i)) : BLK τ' B' g := by
  intro i hi
  obtain ⟨b1, b2, b3, b4, b5⟩ := b i hi
  refine ⟨?_, ?_, ?_, ?_, ?_⟩
  · rw [h i (by omega)]; exact b1
  · have := h (30 + i) (by omega); rw [← Nat.add_assoc, ← Nat.add_assoc] at this; rw [this]; exact b2
  · have := h (60 + i) (by omega); rw [← Nat.add_assoc, ← Nat.add_assoc] at this; rw [this]; exact b3
  · have := h (90 + i) (by omega); rw [← Nat.add_assoc, ← Nat.add_assoc] at this; rw [this]; exact b4
  · have := h (120 + i) (by omega); rw [← Nat.add_assoc, ← Nat.add_assoc] at this; rw [this]; exact b5
theorem m_kp_tail {p : Nat} (hp : p < 10) {Q : Nat → Gr} (hb : BLK τ 1 g) (hQ : ∀ k, k < p → BLK τ (1 + 152 * (1 + k)) (Q k)) : ∃ τ', mX12_keepPast_64 mX12_keepPast_101 FU (nI p) 0 τ = some (0, τ') ∧ MB τ' 0 g (p + 1) (fun k => if k = p then g else Q k) ∧ (∀ j, 1673 ≤ j → τ' 1 j = τ 1 j) ∧ ∀ a j, a ≠ 1 → τ' a j = τ a j := by
  obtain ⟨τ1, e1, e2, e3⟩ := m_kp64 (kk := mX12_keepPast_101) hp 152 19847 0 τ (by omega)
  refine ⟨s_up τ1 1 0 (nI (p + 1)), ?_, ⟨su_s, ?_, fun k hk => ?_⟩, fun j hj => ?_, fun a j ha => by rw [su_o (by omega), e3 a j ha]⟩
  · have e1' : mX12_keepPast_64 mX12_keepPast_101 FU (nI p) 0 τ = mX12_keepPast_101 (nI p) τ1 := e1
    rw [e1']
    unfold mX12_keepPast_101
    rw [gd_t (by decide), lt_t, li1, nI_add]
    rfl
  · exact hb.mv (fun i hi => by rw [su_o (by omega), e2, if_neg (by omega)])
  · show BLK _ _ (if k = p then g else Q k)
    by_cases c : k = p
    · subst c
      rw [if_pos rfl]
      exact hb.mv (fun i hi => by
        rw [su_o (by omega), e2, if_pos (by omega)]
        congr 1
        omega)
    · rw [if_neg c]
      refine (hQ k (by omega)).mv (fun i hi => ?_)
      have : 152 * (1 + k) + 152 ≤ 152 * (1 + p) := by omega
      rw [su_o (by omega), e2, if_neg (by omega), show 0 + 1 + 152 * (1 + k) + i = 1 + 152 * (1 + k) + i by omega]
  · rw [su_o (by omega), e2, if_neg (by omega)]
theorem MB.cg {P' : Nat → Gr} (m : MB τ B g d P) (h : ∀ k, k < d → P k = P' k) : MB τ B g d P' := ⟨m.1, m.2.1, fun k hk => by rw [← h k hk]; exact m.2.2 k hk⟩
theorem m_keepPast (m : MB τ 0 g d P) (hd : d ≤ 10) : ∃ τ', mX12_keepPast τ = some (0, τ') ∧ MB τ' 0 g (nd d) (nP d P g) ∧ (∀ j, 1673 ≤ j → τ' 1 j = τ 1 j) ∧ ∀ a j, a ≠ 1 → τ' a j = τ a j := by
  obtain ⟨m1, m2, m3⟩ := m
  unfold mX12_keepPast
  rw [gd_t (by decide), show τ 1 (nx 0) = nI d from m1, lt_t]
  by_cases c : d = 10
  · subst c
    obtain ⟨τ1, e1, e2, e3⟩ := m_kp9 (kk := mX12_keepPast_48) 1368 18631 0 τ (by omega)
    have e1' : mX12_keepPast_9 mX12_keepPast_48 FU (nI 10) 0 τ = mX12_keepPast_48 10 τ1 := e1
    obtain ⟨τ2, f1, f2, f3, f4⟩ := m_kp_tail (τ := τ1) (g := g) (p := 9) (by decide) (Q := fun k => P (k + 1)) (m2.mv (fun i hi => by rw [e2, if_neg (by omega)])) (fun k hk => (m3 (k + 1) (by omega)).mv (fun i hi => by
      rw [e2, if_pos (by omega), show 1 + 152 * (1 + k) + i + 152 = 0 + 1 + 152 * (1 + (k + 1)) + i by omega]))
    refine ⟨τ2, ?_, f2.cg (fun k hk => ?_), fun j hj => by rw [f3 j hj, e2, if_neg (by omega)], fun a j ha => by rw [f4 a j ha, e3 a j ha]⟩
    · rw [e1']
      unfold mX12_keepPast_48 mX12_keepPast_60
      rw [if_pos rfl, lt_t, show (10 : Int32) - 1 = nI 9 from rfl]
      exact f1
    · show (if k = 9 then g else P (k + 1)) = if k + 1 = 10 then g else P (k + 1)
      by_cases c : k = 9
      · rw [if_pos c, if_pos (by omega)]
      · rw [if_neg c, if_neg (by omega)]
  · have hd' : d < 10 := by omega
    have n10' : ¬ nI d = 10 := by rw [li10, nI_inj (by omega) (by decide)]; exact c
    obtain ⟨τ2, f1, f2, f3, f4⟩ := m_kp_tail (τ := τ) (g := g) (p := d) hd' (Q := P) m2 (fun k hk => by have := m3 k hk; rwa [show 0 + 1 + 152 * (1 + k) = 1 + 152 * (1 + k) by omega] at this)
    have en : nd d = d + 1 := by unfold nd; rw [if_neg c]
    refine ⟨τ2, ?_, ?_, f3, f4⟩
    · rw [show FU = 19999 + 1 from rfl, mX12_keepPast_9, if_pos (by decide), if_neg n10']
      unfold mX12_keepPast_48 mX12_keepPast_60
      rw [if_neg n10', lt_t, li0, sub_nI (Nat.zero_le _), Nat.sub_zero]
      exact f1
    · rw [en]
      refine f2.cg (fun k hk => ?_)
      show _ = if k + 1 = nd d then g else P (if d = 10 then k + 1 else k)
      rw [en, if_neg c]
      by_cases c2 : k = d
      · rw [if_pos c2, if_pos (by omega)]
      · rw [if_neg c2, if_neg (by omega)]
theorem MB.pres {D : Nat} {Q : Nat → Gr} (m : MB τ 0 g D Q) (hD : D ≤ 10) (h : ∀ j, (j = 0 ∨ 153 ≤ j) → τ' 1 j = τ 1 j) (b : BLK τ' 1 g') : MB τ' 0 g' D Q := by
  refine ⟨by rw [h 0 (by omega)]; exact m.1, b, fun k hk => (m.2.2 k hk).mv (fun i hi => h _ (by omega))⟩
end

/-! pure: rolls, the reference -/
def MQw (τ τ' : St) : Prop := ∀ i j, i ≠ 16 → ¬ (i = 0 ∧ 32 ≤ j ∧ j ≤ 34) → τ' i j = τ i j
theorem MQw.rfl' (τ : St) : MQw τ τ := fun _ _ _ _ => rfl
theorem MQw.tr {a b c : St} (h : MQw a b) (k : MQw b c) : MQw a c := fun i j h1 h2 => by rw [k i j h1 h2, h i j h1 h2]
theorem MQu.w {a b : St} (h : MQu a b) : MQw a b := fun i j _ h2 => h i j h2
def tri : Nat → Nat
  | 0 => 0
  | a + 1 => tri a + a
def pmF (j : Nat) : Nat × Nat := if j = 0 then (1, 0) else if j = 1 then (2, 0) else if j = 2 then (2, 1) else if j = 3 then (3, 0) else if j = 4 then (3, 1) else if j = 5 then (3, 2) else if j = 6 then (4, 0) else if j = 7 then (4, 1) else if j = 8 then (4, 2) else (4, 3)
theorem pmF_at : ∀ a, a < 5 → ∀ b, b < a → tri a + b < 10 ∧ pmF (tri a + b) = (a, b) := by decide +kernel
theorem pmF_in : ∀ kn, kn < 6 → ∀ j, j < tri kn → (pmF j).2 < (pmF j).1 ∧ (pmF j).1 < kn := by decide +kernel
theorem tri_le : ∀ kn, kn < 6 → tri kn ≤ 10 := by decide +kernel
theorem tri_mono : ∀ kn, kn < 6 → ∀ a, a < kn → tri (a + 1) ≤ tri kn := by decide +kernel
def HH (n : Nat) (o : Option Nat) (a b c : Nat) : Prop := ∀ x, o = some x → x < 2 ^ 30 ∧ ∀ a' b' c', vld n a' b' c' → le3 a b c a' b' c' → x < st3 a' b' c'
theorem HH.wk {n a b c a1 b1 c1 : Nat} {o : Option Nat} (H : HH n o a b c) (h : ∀ a' b' c', le3 a1 b1 c1 a' b' c' → le3 a b c a' b' c') : HH n o a1 b1 c1 := fun x hx => ⟨(H x hx).1, fun a' b' c' v l => (H x hx).2 a' b' c' v (h a' b' c' l)⟩
def c0 (n b : Nat) : Nat := if 2 < n then 0 else b
def cC (n b : Nat) : Nat := if 2 < n then b else b + 1
def b0 (n a : Nat) : Nat := if 1 < n then 0 else a
def bB (n a : Nat) : Nat := if 1 < n then a else a + 1
theorem vr {n a b c : Nat} (hn : n = 1 ∨ n = 2 ∨ n = 3) (h1 : b0 n a ≤ b) (h2 : b < bB n a) (h3 : c0 n b ≤ c) (h4 : c < cC n b) : vld n a b c := by
  unfold vld
  rcases hn with rfl | rfl | rfl
  · have : b0 1 a = a := rfl
    have : bB 1 a = a + 1 := rfl
    have : c0 1 b = b := rfl
    have : cC 1 b = b + 1 := rfl
    omega
  · have : b0 2 a = 0 := rfl
    have : bB 2 a = a := rfl
    have : c0 2 b = b := rfl
    have : cC 2 b = b + 1 := rfl
    omega
  · have : b0 3 a = 0 := rfl
    have : bB 3 a = a := rfl
    have : c0 3 b = 0 := rfl
    have : cC 3 b = b := rfl
    omega
theorem oE_fs {g : Nat → Option Nat} {o : Option Nat} {i m : Nat} : oE (oE o (g i)) (fs g (i + 1) m) = oE o (fs g i (m + 1)) := by
  cases o with
  | some x => rfl
  | none =>
    cases h : g i with
    | some y => rw [fs_s h]; rfl
    | none => rw [fs_n h]; rfl
def fC (t : Nat → Nat → Nat → Bool) (a b c : Nat) : Option Nat := ift (t a b c) (st3 a b c)
def fB (t : Nat → Nat → Nat → Bool) (n a b : Nat) : Option Nat := fs (fC t a b) (c0 n b) (cC n b - c0 n b)
def fA (t : Nat → Nat → Nat → Bool) (n a : Nat) : Option Nat := fs (fB t n a) (b0 n a) (bB n a - b0 n a)
theorem oe_9 {o : Option Nat} (h : ∀ x, o = some x → x < 2 ^ 30) : (oe o = -9) = (o = none) := by
  cases o with
  | none => exact propext ⟨fun _ => rfl, fun _ => rfl⟩
  | some x => exact propext ⟨fun q => absurd q (nI_m9 (by have := h x rfl; omega)), fun q => by cases q⟩
section
variable {τ : St} {t : Nat → Nat → Nat → Bool} {W k n : Nat}
/-- the reference's test of a set -/
def TA (τ : St) (t : Nat → Nat → Nat → Bool) (W k : Nat) : Prop := ∀ a b c, a < W → b < W → c < W → mX12_tellsAll (nI (st3 a b c)) (nI k) τ = some (z1 (t a b c), τ)
theorem m_r60 {kk : Int32 → Int32 → Int32 → Int32 → Int32 → St → Option (Int32 × St)} (T : TA τ t W k) (hW : W ≤ 30) (hn : n = 1 ∨ n = 2 ∨ n = 3) {a b : Nat} (ha : a < W) (hb : b ≤ a) (hb1 : b0 n a ≤ b) (hb2 : b < bB n a) : ∀ (m N c : Nat) (o : Option Nat), c0 n b ≤ c → c + m = cC n b → HH n o a b c → mX12_rollsOf_60 kk (N + m + 1) (nI n) (nI k) (oe o) (nI a) (nI b) (nI c) τ = kk (nI n) (nI k) (oe (oE o (fs (fC t a b) c m))) (nI a) (nI b) τ ∧ HH n (oE o (fs (fC t a b) c m)) a (b + 1) 0
  | 0, N, c, o, h0, e, H => by
    refine ⟨?_, ?_⟩
    · have eo : oE o (fs (fC t a b) c 0) = o := by cases o <;> rfl
      rw [eo, show N + 0 + 1 = N + 1 from rfl, mX12_rollsOf_60]
      unfold mX12_rollsOf_76
      unfold cC at e
      rcases hn with rfl | rfl | rfl
      · rw [if_neg (by omega)] at e
        rw [if_neg (by decide), li1, nI_add, if_neg (nI_nlt (by omega) (by omega))]
      · rw [if_neg (by omega)] at e
        rw [if_neg (by decide), li1, nI_add, if_neg (nI_nlt (by omega) (by omega))]
      · rw [if_pos (by omega)] at e
        rw [if_pos (by decide), if_neg (nI_nlt (by omega) (by omega))]
    · have eo : oE o (fs (fC t a b) c 0) = o := by cases o <;> rfl
      rw [eo]
      exact H.wk (fun a' b' c' l => by unfold le3 at *; omega)
  | m + 1, N, c, o, h0, e, H => by
    have v : vld n a b c := vr hn hb1 hb2 h0 (by omega)
    have hc : c ≤ b := by
      have : cC n b ≤ b + 1 := by unfold cC; split <;> omega
      omega
    have lt1 : c < cC n b := by omega
    have e1 : ∀ {α : Type} (x y : α), (if 2 < nI n then x else y) = if 2 < n then x else y := by
      intro α x y
      rcases hn with rfl | rfl | rfl <;> rfl
    have e2 : ∀ (x y : Option (Int32 × St)), (if 2 < nI n then (if nI c < nI b then x else y) else if nI c < nI (b + 1) then x else y) = x := by
      intro x y
      unfold cC at lt1
      rw [e1]
      split
      · rename_i q
        rw [if_pos q] at lt1
        rw [if_pos (nI_lt lt1 (by omega))]
      · rename_i q
        rw [if_neg q] at lt1
        rw [if_pos (nI_lt lt1 (by omega))]
    have sl : st3 a b c < 2 ^ 30 := st3_lt (by omega) (by omega) (by omega)
    rw [show N + (m + 1) + 1 = (N + m + 1) + 1 from rfl, mX12_rollsOf_60]
    unfold mX12_rollsOf_76
    rw [show nI b + 1 = nI (b + 1) by rw [li1, nI_add], e2, shl1_nI (by omega), shl1_nI (by omega), shl1_nI (by omega), or_nI, or_nI, lt_t, show (2 ^ a ||| 2 ^ b ||| 2 ^ c) = st3 a b c from rfl, T a b c ha (by omega) (by omega), bd_t]
    unfold mX12_rollsOf_126 mX12_rollsOf_121 mX12_rollsOf_127
    simp only [lt_t, li1, nI_add]
    cases ht : t a b c with
    | false =>
      obtain ⟨L1, L2⟩ := m_r60 (kk := kk) T hW hn ha hb hb1 hb2 m N (c + 1) o (by omega) (by omega) (H.wk (fun a' b' c' l => by unfold le3 at *; omega))
      have ff : fs (fC t a b) c (m + 1) = fs (fC t a b) (c + 1) m := fs_n (by unfold fC ift; rw [ht]; rfl)
      rw [ff, z1_f, if_pos rfl]
      exact ⟨L1, L2⟩
    | true =>
      have ff : fs (fC t a b) c (m + 1) = some (st3 a b c) := fs_s (by unfold fC ift; rw [ht]; rfl)
      rw [ff, z1_t, if_neg n10]
      cases o with
      | none =>
        obtain ⟨L1, L2⟩ := m_r60 (kk := kk) T hW hn ha hb hb1 hb2 m N (c + 1) (some (st3 a b c)) (by omega) (by omega) (fun x hx => by cases hx; exact ⟨sl, fun a' b' c' v' l => st3_mono v v' l⟩)
        rw [if_pos (show oe none = -9 from rfl)]
        exact ⟨L1, L2⟩
      | some x =>
        obtain ⟨L1, L2⟩ := m_r60 (kk := kk) T hW hn ha hb hb1 hb2 m N (c + 1) (some x) (by omega) (by omega) (H.wk (fun a' b' c' l => by unfold le3 at *; omega))
        obtain ⟨x1, x2⟩ := H x rfl
        have := x2 a b c v (by unfold le3; omega)
        rw [if_neg (show ¬ oe (some x) = -9 from nI_m9 (by omega)), if_neg (show ¬ nI (st3 a b c) < oe (some x) from nI_nlt (by omega) (by omega))]
        exact ⟨L1, L2⟩
theorem m_r28 {kk : Int32 → Int32 → Int32 → Int32 → St → Option (Int32 × St)} (T : TA τ t W k) (hW : W ≤ 30) (hn : n = 1 ∨ n = 2 ∨ n = 3) {a : Nat} (ha : a < W) : ∀ (m N b : Nat) (o : Option Nat), b0 n a ≤ b → b + m = bB n a → HH n o a b 0 → mX12_rollsOf_28 kk (N + m + 1) (nI n) (nI k) (oe o) (nI a) (nI b) τ = kk (nI n) (nI k) (oe (oE o (fs (fB t n a) b m))) (nI a) τ ∧ HH n (oE o (fs (fB t n a) b m)) (a + 1) 0 0
  | 0, N, b, o, h0, e, H => by
    have eo : oE o (fs (fB t n a) b 0) = o := by cases o <;> rfl
    rw [eo]
    refine ⟨?_, H.wk (fun a' b' c' l => by unfold le3 at *; omega)⟩
    rw [show N + 0 + 1 = N + 1 from rfl, mX12_rollsOf_28]
    unfold mX12_rollsOf_44
    unfold bB at e
    rcases hn with rfl | rfl | rfl
    · rw [if_neg (by omega)] at e
      rw [if_neg (by decide), li1, nI_add, if_neg (nI_nlt (by omega) (by omega))]
    · rw [if_pos (by omega)] at e
      rw [if_pos (by decide), if_neg (nI_nlt (by omega) (by omega))]
    · rw [if_pos (by omega)] at e
      rw [if_pos (by decide), if_neg (nI_nlt (by omega) (by omega))]
  | m + 1, N, b, o, h0, e, H => by
    have hb2 : b < bB n a := by omega
    have hb : b ≤ a := by
      have : bB n a ≤ a + 1 := by unfold bB; split <;> omega
      omega
    have hc : c0 n b ≤ cC n b := by unfold c0 cC; split <;> omega
    have hc2 : cC n b ≤ b + 1 := by unfold cC; split <;> omega
    obtain ⟨K1, K2⟩ := m_r60 (kk := mX12_rollsOf_134 kk (mX12_rollsOf_28 kk (N + m + 1))) T hW hn ha hb h0 hb2 (cC n b - c0 n b) (19999 - (cC n b - c0 n b)) (c0 n b) o (Nat.le_refl _) (by omega) (H.wk (fun a' b' c' l => by unfold le3 at *; omega))
    rw [show 19999 - (cC n b - c0 n b) + (cC n b - c0 n b) + 1 = FU by unfold FU; omega] at K1
    obtain ⟨L1, L2⟩ := m_r28 (kk := kk) T hW hn ha m N (b + 1) (oE o (fB t n a b)) (by omega) (by omega) K2
    rw [oE_fs] at L1 L2
    refine ⟨?_, L2⟩
    rw [show N + (m + 1) + 1 = (N + m + 1) + 1 from rfl, mX12_rollsOf_28]
    have e2 : ∀ (x y : Option (Int32 × St)), (if 1 < nI n then (if nI b < nI a then x else y) else if nI b < nI (a + 1) then x else y) = x := by
      intro x y
      unfold bB at hb2
      rcases hn with rfl | rfl | rfl
      · rw [if_neg (by decide)] at hb2
        rw [if_neg (by decide), if_pos (nI_lt hb2 (by omega))]
      · rw [if_pos (by decide)] at hb2
        rw [if_pos (by decide), if_pos (nI_lt hb2 (by omega))]
      · rw [if_pos (by decide)] at hb2
        rw [if_pos (by decide), if_pos (nI_lt hb2 (by omega))]
    have e3 : ∀ (f : Int32 → Option (Int32 × St)), (if 2 < nI n then f 0 else f (nI b)) = f (nI (c0 n b)) := by
      intro f
      rcases hn with rfl | rfl | rfl <;> rfl
    unfold mX12_rollsOf_44
    rw [show nI a + 1 = nI (a + 1) by rw [li1, nI_add], e2, e3 (fun z => mX12_rollsOf_58 kk (mX12_rollsOf_28 kk (N + m + 1)) (nI n) (nI k) (oe o) (nI a) (nI b) z τ)]
    unfold mX12_rollsOf_58
    rw [K1, mX12_rollsOf_134, lt_t, li1, nI_add]
    exact L1
theorem m_r6 (T : TA τ t W k) (hW : W ≤ 30) (hc : mX12_cells τ = some (nI W, τ)) (hn : n = 1 ∨ n = 2 ∨ n = 3) : ∀ (m N a : Nat) (o : Option Nat), a + m = W → HH n o a 0 0 → mX12_rollsOf_6 (N + m + 1) (nI n) (nI k) (oe o) (nI a) τ = some (oe (oE o (fs (fA t n) a m)), τ) ∧ ∀ x, oE o (fs (fA t n) a m) = some x → x < 2 ^ 30
  | 0, N, a, o, e, H => by
    have eo : oE o (fs (fA t n) a 0) = o := by cases o <;> rfl
    rw [eo]
    refine ⟨?_, fun x hx => (H x hx).1⟩
    rw [show N + 0 + 1 = N + 1 from rfl, mX12_rollsOf_6, hc, bd_t, if_neg (nI_nlt (by omega) (by omega))]
  | m + 1, N, a, o, e, H => by
    have hb : b0 n a ≤ bB n a := by unfold b0 bB; split <;> omega
    have hb2 : bB n a ≤ a + 1 := by unfold bB; split <;> omega
    obtain ⟨K1, K2⟩ := m_r28 (kk := mX12_rollsOf_140 (mX12_rollsOf_6 (N + m + 1))) T hW hn (show a < W by omega) (bB n a - b0 n a) (19999 - (bB n a - b0 n a)) (b0 n a) o (Nat.le_refl _) (by omega) (H.wk (fun a' b' c' l => by unfold le3 at *; omega))
    rw [show 19999 - (bB n a - b0 n a) + (bB n a - b0 n a) + 1 = FU by unfold FU; omega] at K1
    obtain ⟨L1, L2⟩ := m_r6 T hW hc hn m N (a + 1) (oE o (fA t n a)) (by omega) K2
    rw [oE_fs] at L1 L2
    refine ⟨?_, L2⟩
    have e3 : ∀ (f : Int32 → Option (Int32 × St)), (if 1 < nI n then f 0 else f (nI a)) = f (nI (b0 n a)) := by
      intro f
      rcases hn with rfl | rfl | rfl <;> rfl
    rw [show N + (m + 1) + 1 = (N + m + 1) + 1 from rfl, mX12_rollsOf_6, hc, bd_t, if_pos (nI_lt (by omega) (by omega)), e3 (fun z => mX12_rollsOf_26 (mX12_rollsOf_6 (N + m + 1)) (nI n) (nI k) (oe o) (nI a) z τ)]
    unfold mX12_rollsOf_26
    rw [K1, mX12_rollsOf_140, lt_t, li1, nI_add]
    exact L1
theorem m_rollsOf (T : TA τ t W k) (hW : W ≤ 30) (hc : mX12_cells τ = some (nI W, τ)) (hn : n = 1 ∨ n = 2 ∨ n = 3) : mX12_rollsOf (nI n) (nI k) τ = some (oe (fs (fA t n) 0 W), τ) ∧ ∀ x, fs (fA t n) 0 W = some x → x < 2 ^ 30 := by
  obtain ⟨L1, L2⟩ := m_r6 T hW hc hn W (19999 - W) 0 none (by omega) (fun x hx => by cases hx)
  rw [show 19999 - W + W + 1 = FU by unfold FU; omega] at L1
  exact ⟨L1, L2⟩
theorem m_r54 (T : TA τ t W k) (hW : W ≤ 30) (hc : mX12_cells τ = some (nI W, τ)) (N : Nat) : mX12_rolls_54 (N + 4) (nI k) 1 τ = some (oe (oE (fs (fA t 1) 0 W) (oE (fs (fA t 2) 0 W) (fs (fA t 3) 0 W))), τ) := by
  obtain ⟨a1, a2⟩ := m_rollsOf T hW hc (n := 1) (by omega)
  obtain ⟨b1, b2⟩ := m_rollsOf T hW hc (n := 2) (by omega)
  obtain ⟨c1, c2⟩ := m_rollsOf T hW hc (n := 3) (by omega)
  rw [show (1 : Int32) = nI 1 from rfl, show N + 4 = (N + 3) + 1 from rfl, mX12_rolls_54, if_pos (by decide), a1, bd_t]
  simp only [oe_9 a2]
  cases h1 : fs (fA t 1) 0 W with
  | some x => rw [if_neg (by simp)]; rfl
  | none =>
    rw [if_pos rfl, lt_t, li1, nI_add, show N + 3 = (N + 2) + 1 from rfl, mX12_rolls_54, if_pos (by decide), b1, bd_t]
    simp only [oe_9 b2]
    cases h2 : fs (fA t 2) 0 W with
    | some x => rw [if_neg (by simp)]; rfl
    | none =>
      rw [if_pos rfl, lt_t, li1, nI_add, show N + 2 = (N + 1) + 1 from rfl, mX12_rolls_54, if_pos (by decide), c1, bd_t]
      simp only [oe_9 c2]
      cases h3 : fs (fA t 3) 0 W with
      | some x => rw [if_neg (by simp)]; rfl
      | none =>
        rw [if_pos rfl, lt_t, li1, nI_add, mX12_rolls_54, if_neg (by decide)]
        rfl
end

/-! pure: the text, word by word -/
theorem su_su {σ : St} {a k : Nat} {v u : Int32} : s_up (s_up σ a k v) a k u = s_up σ a k u := by
  funext i j
  by_cases c : i = a ∧ j = k
  · obtain ⟨rfl, rfl⟩ := c; rw [su_s, su_s]
  · rw [su_o (by omega), su_o (by omega), su_o (by omega)]
theorem su_id {σ : St} {a k : Nat} {v : Int32} (h : σ a k = v) : s_up σ a k v = σ := by
  funext i j
  by_cases c : i = a ∧ j = k
  · obtain ⟨rfl, rfl⟩ := c; rw [su_s, h]
  · rw [su_o (by omega)]
def sgc (c : Nat) : Nat := if 97 ≤ c ∧ c ≤ 122 then 1 else if 48 ≤ c ∧ c ≤ 57 then 2 else 0
def sgS (c : Nat) : Nat := if 97 ≤ c ∧ c ≤ 122 then 1 else if 48 ≤ c ∧ c ≤ 57 then 2 else if c = 59 then 3 else 4
def skp (tx : Nat → Nat) : Nat → Nat → Nat
  | 0, p => p
  | m + 1, p => if tx p = 32 then skp tx m (p + 1) else p
def alp (tx : Nat → Nat) (s : Nat) : Nat → Nat → Nat
  | 0, p => p
  | m + 1, p => if sgc (tx p) = s then alp tx s m (p + 1) else p
def tB (tl : Nat) (tx : Nat → Nat) (p : Nat) : Nat := skp tx (tl - p) p
def tE (tl : Nat) (tx : Nat → Nat) (p : Nat) : Nat := if tB tl tx p < tl then (if sgc (tx (tB tl tx p)) = 0 then tB tl tx p + 1 else alp tx (sgc (tx (tB tl tx p))) (tl - (tB tl tx p + 1)) (tB tl tx p + 1)) else tB tl tx p
theorem skp_le (tx : Nat → Nat) : ∀ m p, p ≤ skp tx m p ∧ skp tx m p ≤ p + m
  | 0, p => ⟨Nat.le_refl _, Nat.le_refl _⟩
  | m + 1, p => by
    have := skp_le tx m (p + 1)
    unfold skp
    split <;> omega
theorem alp_le (tx : Nat → Nat) (s : Nat) : ∀ m p, p ≤ alp tx s m p ∧ alp tx s m p ≤ p + m
  | 0, p => ⟨Nat.le_refl _, Nat.le_refl _⟩
  | m + 1, p => by
    have := alp_le tx s m (p + 1)
    unfold alp
    split <;> omega
theorem tB_le {tl p : Nat} (tx : Nat → Nat) (h : p ≤ tl) : p ≤ tB tl tx p ∧ tB tl tx p ≤ tl := by
  have := skp_le tx (tl - p) p
  unfold tB
  omega
theorem tE_le {tl p : Nat} (tx : Nat → Nat) (h : p ≤ tl) : tB tl tx p ≤ tE tl tx p ∧ tE tl tx p ≤ tl ∧ (tB tl tx p < tl → tB tl tx p < tE tl tx p) := by
  have h1 := tB_le tx h
  have h2 := alp_le tx (sgc (tx (tB tl tx p))) (tl - (tB tl tx p + 1)) (tB tl tx p + 1)
  unfold tE
  split
  · split <;> omega
  · omega
section
variable {σ τ σ' τ' : St} {tl p b e : Nat} {tx : Nat → Nat}
def TXM (τ : St) (tl : Nat) (tx : Nat → Nat) : Prop := τ 0 3 = nI tl ∧ (∀ j, j < tl → τ 3 j = nI (tx j)) ∧ tl ≤ 200 ∧ ∀ j, j < tl → tx j < 256
def TXS (σ : St) (tl : Nat) (tx : Nat → Nat) : Prop := σ 68 0 = 1 ∧ σ 68 1 = nI tl ∧ (∀ j, j < tl → σ 1 j = nI (tx j)) ∧ tl ≤ 200 ∧ ∀ j, j < tl → tx j < 256
theorem TXM.fr (T : TXM τ tl tx) (h : ∀ j, τ' 3 j = τ 3 j) (h2 : τ' 0 3 = τ 0 3) : TXM τ' tl tx := ⟨by rw [h2]; exact T.1, fun j hj => by rw [h]; exact T.2.1 j hj, T.2.2⟩
theorem TXS.fr (T : TXS σ tl tx) (h : ∀ j, σ' 1 j = σ 1 j) (h0 : σ' 68 0 = σ 68 0) (h1 : σ' 68 1 = σ 68 1) : TXS σ' tl tx := ⟨by rw [h0]; exact T.1, by rw [h1]; exact T.2.1, fun j hj => by rw [h]; exact T.2.2.1 j hj, T.2.2.2⟩
theorem m_sort {c : Nat} (hc : c < 256) : mX12_sort (nI c) τ = some (nI (sgc c), τ) := by
  unfold mX12_sort mX12_sort_16 sgc
  rw [show (97 : Int32) = nI 97 from rfl, show (122 : Int32) = nI 122 from rfl, show (48 : Int32) = nI 48 from rfl, show (57 : Int32) = nI 57 from rfl]
  simp only [nI_ltp (show c < 2 ^ 31 by omega) (show 97 < 2 ^ 31 by decide), nI_ltp (show 122 < 2 ^ 31 by decide) (show c < 2 ^ 31 by omega), nI_ltp (show c < 2 ^ 31 by omega) (show 48 < 2 ^ 31 by decide), nI_ltp (show 57 < 2 ^ 31 by decide) (show c < 2 ^ 31 by omega)]
  by_cases c1 : c < 97
  · rw [if_pos c1, if_neg (show ¬ (97 ≤ c ∧ c ≤ 122) by omega)]
    by_cases c2 : c < 48
    · rw [if_pos c2, if_neg (by omega)]; rfl
    · rw [if_neg c2]
      by_cases c3 : 57 < c
      · rw [if_pos c3, if_neg (by omega)]; rfl
      · rw [if_neg c3, if_pos (by omega)]; rfl
  · rw [if_neg c1]
    by_cases c2 : 122 < c
    · rw [if_pos c2, if_neg (by omega), if_pos (by omega), if_neg (by omega), if_neg (by omega)]; rfl
    · rw [if_neg c2, if_pos (by omega)]; rfl
theorem s_sign (T : TXS σ tl tx) (hp : p < tl) : mX7_signAt (nI p) σ = some (nI (sgS (tx p)), σ) := by
  obtain ⟨t0, t1, t2, t3, t4⟩ := T
  have hc := t4 p hp
  unfold mX7_signAt
  rw [t1, if_pos (nI_lt hp (by omega)), gd_t (by rw [t0]; decide), gd_t (ib_nI (by omega) (by decide)), nx_nI (by omega), t2 p hp, lt_t]
  unfold mX7_signAt_31 mX7_signAt_45 sgS
  generalize tx p = c at hc
  rw [show (97 : Int32) = nI 97 from rfl, show (122 : Int32) = nI 122 from rfl, show (48 : Int32) = nI 48 from rfl, show (57 : Int32) = nI 57 from rfl, show (59 : Int32) = nI 59 from rfl]
  simp only [nI_ltp (show c < 2 ^ 31 by omega) (show 97 < 2 ^ 31 by decide), nI_ltp (show 122 < 2 ^ 31 by decide) (show c < 2 ^ 31 by omega), nI_ltp (show c < 2 ^ 31 by omega) (show 48 < 2 ^ 31 by decide), nI_ltp (show 57 < 2 ^ 31 by decide) (show c < 2 ^ 31 by omega), nI_inj (show c < 2 ^ 31 by omega) (show 59 < 2 ^ 31 by decide)]
  by_cases c1 : c < 97
  · rw [if_pos c1, if_neg (show ¬ (97 ≤ c ∧ c ≤ 122) by omega)]
    by_cases c2 : c < 48
    · rw [if_pos c2, if_neg (show ¬ (48 ≤ c ∧ c ≤ 57) by omega), if_neg (by omega), if_neg (by omega)]; rfl
    · rw [if_neg c2]
      by_cases c3 : 57 < c
      · rw [if_pos c3, if_neg (show ¬ (48 ≤ c ∧ c ≤ 57) by omega)]
        by_cases c4 : c = 59
        · rw [if_pos c4, if_pos c4]; rfl
        · rw [if_neg c4, if_neg c4]; rfl
      · rw [if_neg c3, if_pos (by omega)]; rfl
  · rw [if_neg c1]
    by_cases c2 : 122 < c
    · rw [if_pos c2, if_neg (show ¬ c < 48 by omega), if_pos (show 57 < c by omega), if_neg (show ¬ c = 59 by omega), if_neg (by omega), if_neg (by omega), if_neg (by omega)]; rfl
    · rw [if_neg c2, if_pos (by omega)]; rfl
theorem s_sign0 (T : TXS σ tl tx) (hp : tl ≤ p) (hp2 : p < 2 ^ 31) : mX7_signAt (nI p) σ = some (0, σ) := by
  unfold mX7_signAt
  rw [T.2.1, if_neg (nI_nlt hp (by omega))]
theorem m_skip_loop : ∀ (m N p : Nat) (τ : St), TXM τ tl tx → τ 0 17 = nI p → p + m = tl → mX12_skip_0 (N + m + 1) τ = some (0, s_up τ 0 17 (nI (skp tx m p)))
  | 0, N, p, τ, T, h, e => by
    have h200 := T.2.2.1
    rw [show N + 0 + 1 = N + 1 from rfl, mX12_skip_0, h, T.1, if_neg (nI_nlt (by omega) (by omega)), show skp tx 0 p = p from rfl, su_id h]
  | m + 1, N, p, τ, T, h, e => by
    have h200 := T.2.2.1
    have hc := T.2.2.2 p (by omega)
    have L := m_skip_loop m N (p + 1) (s_up τ 0 17 (nI (p + 1))) (T.fr (fun j => su_o (by omega)) (su_o (by omega))) su_s (by omega)
    rw [su_su] at L
    rw [show N + (m + 1) + 1 = (N + m + 1) + 1 from rfl, mX12_skip_0, h, T.1, if_pos (nI_lt (by omega) (by omega)), gd_t (ib_nI (by omega) (by decide))]
    simp only [nx_nI (show p < 2 ^ 31 by omega), T.2.1 p (by omega), show (32 : Int32) = nI 32 from rfl, nI_inj (show tx p < 2 ^ 31 by omega) (show 32 < 2 ^ 31 by decide)]
    unfold skp
    by_cases c : tx p = 32
    · rw [if_pos c, if_pos c, lt_t, li1, nI_add]; exact L
    · rw [if_neg c, if_neg c, su_id h]
theorem m_skip (T : TXM τ tl tx) (h : τ 0 17 = nI p) (hp : p ≤ tl) : mX12_skip τ = some (0, s_up τ 0 17 (nI (tB tl tx p))) := by
  have h200 := T.2.2.1
  have L := m_skip_loop (tl - p) (19999 - (tl - p)) p τ T h (by omega)
  rw [show 19999 - (tl - p) + (tl - p) + 1 = FU by unfold FU; omega] at L
  exact L
theorem m_t37 {kk : St → Option (Int32 × St)} (hb : b < tl) (hs : 0 < sgc (tx b)) : ∀ (m N q : Nat) (τ : St), TXM τ tl tx → τ 0 17 = nI q → τ 0 18 = nI b → q + m = tl → mX12_token_37 kk (N + m + 1) τ = kk (s_up τ 0 17 (nI (alp tx (sgc (tx b)) m q)))
  | 0, N, q, τ, T, h, h18, e => by
    have h200 := T.2.2.1
    rw [show N + 0 + 1 = N + 1 from rfl, mX12_token_37, h, T.1, if_neg (nI_nlt (by omega) (by omega)), show alp tx (sgc (tx b)) 0 q = q from rfl, su_id h]
  | m + 1, N, q, τ, T, h, h18, e => by
    have h200 := T.2.2.1
    have hc := T.2.2.2 q (by omega)
    have hcb := T.2.2.2 b hb
    have hsl : ∀ c, sgc c ≤ 2 := fun c => by unfold sgc; split <;> (try split) <;> omega
    have l1 := hsl (tx q)
    have l2 := hsl (tx b)
    have L := m_t37 (kk := kk) hb hs m N (q + 1) (s_up τ 0 17 (nI (q + 1))) (T.fr (fun j => su_o (by omega)) (su_o (by omega))) su_s (by rw [su_o (by omega)]; exact h18) (by omega)
    rw [su_su] at L
    rw [show N + (m + 1) + 1 = (N + m + 1) + 1 from rfl, mX12_token_37, h, T.1, if_pos (nI_lt (by omega) (by omega)), h18, gd_t (ib_nI (by omega) (by decide)), nx_nI (by omega), T.2.1 b hb, m_sort hcb, bd_t, if_pos (show 0 < nI (sgc (tx b)) from nI_lt (a := 0) hs (by omega)), h, gd_t (ib_nI (by omega) (by decide)), nx_nI (by omega), T.2.1 q (by omega), m_sort hc, bd_t, h18, gd_t (ib_nI (by omega) (by decide)), nx_nI (by omega), T.2.1 b hb, m_sort hcb, bd_t]
    simp only [nI_inj (show sgc (tx q) < 2 ^ 31 by omega) (show sgc (tx b) < 2 ^ 31 by omega)]
    unfold alp
    by_cases c : sgc (tx q) = sgc (tx b)
    · rw [if_pos c, if_pos c, lt_t, h, li1, nI_add]; exact L
    · rw [if_neg c, if_neg c, su_id h]
/-- the reference's word -/
def mT (τ : St) (b e : Nat) : St := s_up (s_up (s_up τ 0 17 (nI e)) 0 18 (nI b)) 0 19 (nI e)
theorem mT_o {i j : Nat} (h : ¬ (i = 0 ∧ 17 ≤ j ∧ j ≤ 19)) : mT τ b e i j = τ i j := by unfold mT; rw [su_o (by omega), su_o (by omega), su_o (by omega)]
theorem mT_17 : mT τ b e 0 17 = nI e := by unfold mT; rw [su_o (by omega), su_o (by omega), su_s]
theorem mT_18 : mT τ b e 0 18 = nI b := by unfold mT; rw [su_o (by omega), su_s]
theorem mT_19 : mT τ b e 0 19 = nI e := by unfold mT; rw [su_s]
theorem mT_eq {σ : St} (h : ∀ i j, ¬ (i = 0 ∧ 17 ≤ j ∧ j ≤ 19) → σ i j = τ i j) (h17 : σ 0 17 = nI e) (h18 : σ 0 18 = nI b) (h19 : σ 0 19 = nI e) : σ = mT τ b e := by
  funext i j
  by_cases c : i = 0 ∧ 17 ≤ j ∧ j ≤ 19
  · obtain ⟨rfl, c1, c2⟩ := c
    rcases (show j = 17 ∨ j = 18 ∨ j = 19 by omega) with rfl | rfl | rfl
    · rw [mT_17, h17]
    · rw [mT_18, h18]
    · rw [mT_19, h19]
  · rw [mT_o c, h i j c]
theorem m_token (T : TXM τ tl tx) (h : τ 0 17 = nI p) (hp : p ≤ tl) : mX12_token τ = some (0, mT τ (tB tl tx p) (tE tl tx p)) := by
  have h200 := T.2.2.1
  obtain ⟨b1, b2⟩ := tB_le tx hp
  obtain ⟨τ1, hτ1⟩ : ∃ τ1, τ1 = s_up (s_up τ 0 17 (nI (tB tl tx p))) 0 18 (nI (tB tl tx p)) := ⟨_, rfl⟩
  have f1 : ∀ i j, ¬ (i = 0 ∧ 17 ≤ j ∧ j ≤ 18) → τ1 i j = τ i j := fun i j hij => by rw [hτ1, su_o (by omega), su_o (by omega)]
  have h17 : τ1 0 17 = nI (tB tl tx p) := by rw [hτ1, su_o (by omega), su_s]
  have h18 : τ1 0 18 = nI (tB tl tx p) := by rw [hτ1, su_s]
  have T1 : TXM τ1 tl tx := T.fr (fun j => f1 3 j (by omega)) (f1 0 3 (by omega))
  unfold mX12_token
  rw [m_skip T h hp, bd_t, lt_t, su_s, ← hτ1, h17, T1.1]
  unfold mX12_token_33
  have fin : ∀ e, mX12_token_103 (s_up τ1 0 17 (nI e)) = some (0, mT τ (tB tl tx p) e) := by
    intro e
    unfold mX12_token_103
    rw [lt_t, su_s]
    congr 2
    refine mT_eq (fun i j hij => by rw [su_o (by omega), su_o (by omega), f1 i j (by omega)]) (by rw [su_o (by omega), su_s]) (by rw [su_o (by omega), su_o (by omega)]; exact h18) su_s
  by_cases c : tB tl tx p < tl
  · rw [if_pos (nI_lt c (by omega)), li1, nI_add, lt_t]
    have T2 : TXM (s_up τ1 0 17 (nI (tB tl tx p + 1))) tl tx := T1.fr (fun j => su_o (by omega)) (su_o (by omega))
    have k18 : s_up τ1 0 17 (nI (tB tl tx p + 1)) 0 18 = nI (tB tl tx p) := by rw [su_o (by omega)]; exact h18
    by_cases c2 : sgc (tx (tB tl tx p)) = 0
    · have et : tE tl tx p = tB tl tx p + 1 := by unfold tE; rw [if_pos c, if_pos c2]
      rw [et, ← fin, show FU = 19999 + 1 from rfl, mX12_token_37, su_s, T2.1]
      by_cases c3 : tB tl tx p + 1 < tl
      · rw [if_pos (nI_lt c3 (by omega)), k18, gd_t (ib_nI (by omega) (by decide)), nx_nI (by omega), T2.2.1 _ c, m_sort (T.2.2.2 _ c), bd_t, c2, if_neg (by decide)]
      · rw [if_neg (nI_nlt (by omega) (by omega))]
    · have et : tE tl tx p = alp tx (sgc (tx (tB tl tx p))) (tl - (tB tl tx p + 1)) (tB tl tx p + 1) := by unfold tE; rw [if_pos c, if_neg c2]
      have L := m_t37 (kk := mX12_token_103) c (by omega) (tl - (tB tl tx p + 1)) (19999 - (tl - (tB tl tx p + 1))) (tB tl tx p + 1) _ T2 su_s k18 (by omega)
      rw [show 19999 - (tl - (tB tl tx p + 1)) + (tl - (tB tl tx p + 1)) + 1 = FU by unfold FU; omega, su_su, ← et, fin] at L
      exact L
  · have et : tE tl tx p = tB tl tx p := by unfold tE; rw [if_neg c]
    rw [if_neg (nI_nlt (by omega) (by omega)), show nI (tB tl tx p) + 0 = nI (tB tl tx p) by rw [li0, nI_add]; rfl, lt_t, et, ← fin, show FU = 19999 + 1 from rfl, mX12_token_37, su_s, show s_up τ1 0 17 (nI (tB tl tx p)) 0 3 = nI tl by rw [su_o (by omega)]; exact T1.1, if_neg (nI_nlt (by omega) (by omega))]
theorem s_skip_loop : ∀ (m N p : Nat) (σ : St), TXS σ tl tx → σ 68 2 = nI p → p + m = tl → mX7_skipBlanks_0 (N + m + 1) σ = some (0, s_up σ 68 2 (nI (skp tx m p)))
  | 0, N, p, σ, T, h, e => by
    have h200 := T.2.2.2.1
    rw [show N + 0 + 1 = N + 1 from rfl, mX7_skipBlanks_0, h, T.2.1, if_neg (nI_nlt (by omega) (by omega)), show skp tx 0 p = p from rfl, su_id h]
  | m + 1, N, p, σ, T, h, e => by
    have h200 := T.2.2.2.1
    have hc := T.2.2.2.2 p (by omega)
    have L := s_skip_loop m N (p + 1) (s_up σ 68 2 (nI (p + 1))) (T.fr (fun j => su_o (by omega)) (su_o (by omega)) (su_o (by omega))) su_s (by omega)
    rw [su_su] at L
    rw [show N + (m + 1) + 1 = (N + m + 1) + 1 from rfl, mX7_skipBlanks_0, h, T.2.1, if_pos (nI_lt (by omega) (by omega)), gd_t (by rw [T.1]; decide), gd_t (ib_nI (by omega) (by decide))]
    simp only [nx_nI (show p < 2 ^ 31 by omega), T.2.2.1 p (by omega), show (32 : Int32) = nI 32 from rfl, nI_inj (show tx p < 2 ^ 31 by omega) (show 32 < 2 ^ 31 by decide)]
    unfold skp
    by_cases c : tx p = 32
    · rw [if_pos c, if_pos c, lt_t, li1, nI_add]; exact L
    · rw [if_neg c, if_neg c, su_id h]
theorem s_skip (T : TXS σ tl tx) (h : σ 68 2 = nI p) (hp : p ≤ tl) : mX7_skipBlanks σ = some (0, s_up σ 68 2 (nI (tB tl tx p))) := by
  have h200 := T.2.2.2.1
  have L := s_skip_loop (tl - p) (19999 - (tl - p)) p σ T h (by omega)
  rw [show 19999 - (tl - p) + (tl - p) + 1 = FU by unfold FU; omega] at L
  exact L
theorem sgS_eq (c : Nat) {s : Nat} (hs : s = 1 ∨ s = 2) : (sgS c = s) ↔ (sgc c = s) := by
  unfold sgS sgc
  rcases hs with rfl | rfl <;> (split <;> (try split) <;> (try split) <;> omega)
theorem s_alike_none (k : St → Option (Int32 × St)) (n : Nat) (σ : St) : mX7_nextToken_69 k (n + 1) 0 σ = k σ := by
  rw [mX7_nextToken_69, if_pos rfl]
theorem s_alike_loop {s : Nat} (hs : s = 1 ∨ s = 2) (k : St → Option (Int32 × St)) {v : Int32} (hv : ¬ v = 0) : ∀ (m N q : Nat) (σ : St), TXS σ tl tx → σ 68 2 = nI q → σ 68 4 = nI s → q + m = tl → mX7_nextToken_69 k (N + m + 1) v σ = k (s_up σ 68 2 (nI (alp tx s m q)))
  | 0, N, q, σ, T, h, h4, e => by
    have h200 := T.2.2.2.1
    rw [show N + 0 + 1 = N + 1 from rfl, mX7_nextToken_69, if_neg hv, h, T.2.1, if_neg (nI_nlt (by omega) (by omega)), show alp tx s 0 q = q from rfl, su_id h]
  | m + 1, N, q, σ, T, h, h4, e => by
    have h200 := T.2.2.2.1
    have hsl : sgS (tx q) ≤ 4 := by unfold sgS; split <;> (try split) <;> (try split) <;> omega
    have L := s_alike_loop hs k hv m N (q + 1) (s_up σ 68 2 (nI (q + 1))) (T.fr (fun j => su_o (by omega)) (su_o (by omega)) (su_o (by omega))) su_s (by rw [su_o (by omega)]; exact h4) (by omega)
    rw [su_su] at L
    rw [show N + (m + 1) + 1 = (N + m + 1) + 1 from rfl, mX7_nextToken_69, if_neg hv, h, T.2.1, if_pos (nI_lt (by omega) (by omega)), s_sign T (by omega), bd_t, h4]
    simp only [nI_inj (show sgS (tx q) < 2 ^ 31 by omega) (show s < 2 ^ 31 by omega), sgS_eq (tx q) hs]
    unfold alp
    by_cases c : sgc (tx q) = s
    · rw [if_pos c, if_pos c, lt_t, h, li1, nI_add]; exact L
    · rw [if_neg c, if_neg c, su_id h]
end

/-! pure: a coin rolls; both sides -/
/-- way k by a coin's order -/
def ord (fo k : Nat) : Nat := if fo = 1 then 3 - k else k
def wst (sh : Nat → Nat → Bool) (hg : Nat → Nat) (w i came : Nat) (q : Nat × Nat) (v : Nat) : Nat × Nat := if sh i v then q else if hg (nbr w i v) < q.2 ∨ (hg (nbr w i v) = q.2 ∧ q.1 ≠ 4 ∧ v = came) then (v, hg (nbr w i v)) else q
/-- the first k ways looked at -/
def wayK (sh : Nat → Nat → Bool) (hg : Nat → Nat) (w fo came i : Nat) : Nat → Nat × Nat
  | 0 => (4, hg i)
  | k + 1 => wst sh hg w i came (wayK sh hg w fo came i k) (ord fo k)
def wayA (sh : Nat → Nat → Bool) (hg : Nat → Nat) (w fo came i : Nat) : Nat := (wayK sh hg w fo came i 4).1
/-- no way is 4: in the reference -9 -/
def e9 (v : Nat) : Int32 := if v = 4 then -9 else nI v
def e1 (v : Nat) : Int32 := if v = 4 then -1 else nI v
theorem e9_eq {v : Nat} (h : v ≤ 4) : (e9 v = -9) = (v = 4) := by
  rcases (show v = 0 ∨ v = 1 ∨ v = 2 ∨ v = 3 ∨ v = 4 by omega) with rfl | rfl | rfl | rfl | rfl <;> decide
theorem e9_lt {v : Nat} (h : v < 4) : e9 v = nI v := by unfold e9; rw [if_neg (by omega)]
theorem e9_came {v c : Nat} (h : v < 4) (hc : c ≤ 4) : (nI v = e9 c) = (v = c) := by
  rcases (show c = 4 ∨ c < 4 by omega) with rfl | h2
  · rcases four h with rfl | rfl | rfl | rfl <;> decide
  · rw [e9_lt h2]; exact nI_inj (by omega) (by omega)
theorem ord_lt {fo k : Nat} (hk : k < 4) : ord fo k < 4 := by unfold ord; split <;> omega
theorem wst_le {sh : Nat → Nat → Bool} {hg : Nat → Nat} {w i came : Nat} {q : Nat × Nat} {v : Nat} (hv : v < 4) (h1 : q.1 ≤ 4) : (wst sh hg w i came q v).1 ≤ 4 ∧ (wst sh hg w i came q v).2 ≤ q.2 := by
  unfold wst
  split
  · exact ⟨h1, Nat.le_refl _⟩
  · split
    · rename_i h
      refine ⟨by show v ≤ 4; omega, ?_⟩
      show hg _ ≤ q.2
      rcases h with h | ⟨h, -⟩ <;> omega
    · exact ⟨h1, Nat.le_refl _⟩
theorem wayK_le {sh : Nat → Nat → Bool} {hg : Nat → Nat} {w fo came i : Nat} : ∀ k, k ≤ 4 → (wayK sh hg w fo came i k).1 ≤ 4 ∧ (wayK sh hg w fo came i k).2 ≤ hg i
  | 0, _ => ⟨Nat.le_refl _, Nat.le_refl _⟩
  | k + 1, hk => by
    obtain ⟨h1, h2⟩ := wayK_le k (by omega)
    have h3 := wst_le (sh := sh) (hg := hg) (w := w) (i := i) (came := came) (q := wayK sh hg w fo came i k) (v := ord fo k) (ord_lt (by omega)) h1
    exact ⟨h3.1, Nat.le_trans h3.2 h2⟩
/-- what a roll needs of the reference's state: which sides are shut, heights -/
def MR (τ : St) (w n : Nat) (sh : Nat → Nat → Bool) (hg : Nat → Nat) : Prop := n ≤ 30 ∧ (∀ i v, i < n → v < 4 → mX12_isShut (nI i) (nI v) τ = some (z1 (sh i v), τ)) ∧ (∀ i v, i < n → v < 4 → sh i v = false → mX12_beside (nI i) (nI v) τ = some (nI (nbr w i v), τ) ∧ nbr w i v < n) ∧ (∀ i, i < n → τ 1 (1 + i) = nI (hg i) ∧ hg i ≤ 9)
section
variable {τ : St} {w n : Nat} {sh : Nat → Nat → Bool} {hg : Nat → Nat}
theorem m_way_step (R : MR τ w n sh hg) {i came fo k m : Nat} (hi : i < n) (hc : came ≤ 4) (hf : fo ≤ 1) (hk : k < 4) {q : Nat × Nat} (h1 : q.1 ≤ 4) (h2 : q.2 ≤ 9) : mX12_wayFrom_17 (m + 1) (nI i) (e9 came) (nI fo) (e9 q.1) (nI q.2) (nI k) τ = mX12_wayFrom_17 m (nI i) (e9 came) (nI fo) (e9 (wst sh hg w i came q (ord fo k)).1) (nI (wst sh hg w i came q (ord fo k)).2) (nI (k + 1)) τ := by
  obtain ⟨n30, r1, r2, r3⟩ := R
  have ho : ord fo k < 4 := ord_lt hk
  have e : mX12_wayFrom_17 (m + 1) (nI i) (e9 came) (nI fo) (e9 q.1) (nI q.2) (nI k) τ = mX12_wayFrom_37 (mX12_wayFrom_17 m) (nI i) (e9 came) (nI fo) (e9 q.1) (nI q.2) (nI k) (nI (ord fo k)) τ := by
    rw [mX12_wayFrom_17]
    simp only [li1, li3, li4]
    rw [if_pos (nI_lt (by omega) (by decide))]
    unfold ord
    rcases (show fo = 0 ∨ fo = 1 by omega) with rfl | rfl
    · rw [if_neg (by decide), if_neg (by decide)]
    · rw [if_pos rfl, if_pos rfl, sub_nI (by omega)]
  rw [e]
  generalize ord fo k = v at ho ⊢
  have fin : ∀ b l : Nat, mX12_wayFrom_130 (mX12_wayFrom_17 m) (nI i) (e9 came) (nI fo) (e9 b) (nI k) (nI l) τ = mX12_wayFrom_17 m (nI i) (e9 came) (nI fo) (e9 b) (nI l) (nI (k + 1)) τ := by
    intro b l
    unfold mX12_wayFrom_130
    rw [lt_t, li1, nI_add]
  have yes : ∀ hh : Int32, ∀ l : Nat, hh = nI l → mX12_wayFrom_97 (mX12_wayFrom_17 m) (nI i) (e9 came) (nI fo) (e9 q.1) (nI q.2) (nI k) (nI v) hh τ = mX12_wayFrom_17 m (nI i) (e9 came) (nI fo) (e9 v) (nI l) (nI (k + 1)) τ := by
    intro hh l hl
    subst hl
    unfold mX12_wayFrom_97 mX12_wayFrom_102
    rw [if_neg (by decide)]
    unfold mX12_wayFrom_116
    rw [if_neg (by decide), ← e9_lt ho, fin]
  have no : ∀ hh : Int32, mX12_wayFrom_101 (mX12_wayFrom_17 m) (nI i) (e9 came) (nI fo) (e9 q.1) (nI q.2) (nI k) (nI v) hh τ = mX12_wayFrom_17 m (nI i) (e9 came) (nI fo) (e9 q.1) (nI q.2) (nI (k + 1)) τ := by
    intro hh
    unfold mX12_wayFrom_101 mX12_wayFrom_102
    rw [if_pos rfl]
    unfold mX12_wayFrom_116
    rw [if_pos rfl, fin]
  unfold mX12_wayFrom_37
  rw [r1 i v hi ho, bd_t]
  unfold wst
  cases hs : sh i v with
  | true =>
    rw [if_neg (by decide), if_pos rfl]
    unfold mX12_wayFrom_68
    have e99 : (99 : Int32) = nI 99 := id rfl
    rw [e99, if_neg (nI_nlt (by omega) (by omega)), if_neg (by rw [nI_inj (by omega) (by omega)]; omega), no]
  | false =>
    obtain ⟨b1, b2⟩ := r2 i v hi ho hs
    obtain ⟨g1, g2⟩ := r3 _ b2
    rw [if_pos z1_f, b1, bd_t, li1, nI_add, gd_t (ib_nI (by omega) (by decide)), nx_nI (by omega), g1, if_neg (by decide)]
    unfold mX12_wayFrom_68
    by_cases c1 : hg (nbr w i v) < q.2
    · rw [if_pos (nI_lt c1 (by omega)), yes _ _ rfl, if_pos (Or.inl c1)]
    · rw [if_neg (nI_nlt (by omega) (by omega))]
      by_cases c2 : hg (nbr w i v) = q.2
      · rw [if_pos (by rw [c2])]
        by_cases c3 : q.1 = 4
        · rw [if_pos (by rw [e9_eq h1]; exact c3), no, if_neg (by rintro (h | ⟨-, h, -⟩) <;> omega)]
        · rw [if_neg (by rw [e9_eq h1]; exact c3)]
          by_cases c4 : v = came
          · rw [if_pos (by rw [e9_came ho hc]; exact c4), yes _ _ rfl, if_pos (Or.inr ⟨c2, c3, c4⟩)]
          · rw [if_neg (by rw [e9_came ho hc]; exact c4), no, if_neg (by rintro (h | ⟨-, -, h⟩) <;> omega)]
      · rw [if_neg (by rw [nI_inj (by omega) (by omega)]; exact c2), no, if_neg (by rintro (h | ⟨h, -⟩) <;> omega)]
theorem m_wayFrom (R : MR τ w n sh hg) {i came fo : Nat} (hi : i < n) (hc : came ≤ 4) (hf : fo ≤ 1) : mX12_wayFrom (nI i) (e9 came) (nI fo) τ = some (e9 (wayA sh hg w fo came i), τ) := by
  have R0 := R
  obtain ⟨n30, r1, r2, r3⟩ := R0
  obtain ⟨g1, g2⟩ := r3 i hi
  unfold mX12_wayFrom
  rw [li1, nI_add, gd_t (ib_nI (by omega) (by decide)), nx_nI (by omega), g1, lt_t]
  have st : ∀ k, k < 4 → ∀ m, mX12_wayFrom_17 (m + 1) (nI i) (e9 came) (nI fo) (e9 (wayK sh hg w fo came i k).1) (nI (wayK sh hg w fo came i k).2) (nI k) τ = mX12_wayFrom_17 m (nI i) (e9 came) (nI fo) (e9 (wayK sh hg w fo came i (k + 1)).1) (nI (wayK sh hg w fo came i (k + 1)).2) (nI (k + 1)) τ := by
    intro k hk m
    have := wayK_le (sh := sh) (hg := hg) (w := w) (fo := fo) (came := came) (i := i) k (by omega)
    exact m_way_step R hi hc hf hk this.1 (by omega)
  have s0 := st 0 (by decide) 19999
  have s1 := st 1 (by decide) 19998
  have s2 := st 2 (by decide) 19997
  have s3 := st 3 (by decide) 19996
  have e0 : mX12_wayFrom_17 FU (nI i) (e9 came) (nI fo) (-9) (nI (hg i)) 0 τ = mX12_wayFrom_17 (19999 + 1) (nI i) (e9 came) (nI fo) (e9 (wayK sh hg w fo came i 0).1) (nI (wayK sh hg w fo came i 0).2) (nI 0) τ := rfl
  rw [e0, s0, s1, s2, s3, mX12_wayFrom_17, if_neg (by decide)]
  rfl
end

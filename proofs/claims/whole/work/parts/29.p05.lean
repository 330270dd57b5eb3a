/-! pure: a roll in the class -/
theorem e1_eq {v : Nat} (h : v ≤ 4) : (e1 v = -1) = (v = 4) := by
  rcases (show v = 0 ∨ v = 1 ∨ v = 2 ∨ v = 3 ∨ v = 4 by omega) with rfl | rfl | rfl | rfl | rfl <;> decide
theorem e1_lt {v : Nat} (h : v < 4) : e1 v = nI v := by unfold e1; rw [if_neg (by omega)]
theorem e1_came {v c : Nat} (h : v < 4) (hc : c ≤ 4) : (nI v = e1 c) = (v = c) := by
  rcases (show c = 4 ∨ c < 4 by omega) with rfl | h2
  · rcases four h with rfl | rfl | rfl | rfl <;> decide
  · rw [e1_lt h2]; exact nI_inj (by omega) (by omega)
theorem nI_m1 {a : Nat} (h : a < 2 ^ 31) : ¬ nI a = -1 := by
  intro e
  have h1 := congrArg Int32.toInt e
  rw [nI_toInt h] at h1
  have h2 : (-1 : Int32).toInt = -1 := by decide
  omega
/-- what a roll reads in the class -/
def SR (σ : St) (w n : Nat) (sh : Nat → Nat → Bool) (hg gr : Nat → Nat) : Prop := n ≤ 30 ∧ (∀ i, i < n → ∃ m, m < 16 ∧ (σ 12 i ||| σ 28 i) = nI m ∧ ∀ v, v < 4 → kbit m v = sh i v) ∧ (∀ i v, i < n → v < 4 → sh i v = false → σ 14 (4 * i + v) = nI (nbr w i v) ∧ nbr w i v < n ∧ (v = 0 → w ≤ i) ∧ (v = 3 → 1 ≤ i)) ∧ (∀ i, i < n → σ 27 i = nI (hg i) ∧ hg i ≤ 9) ∧ (∀ i, i < n → σ 13 i = nI (gr i) ∧ gr i ≤ 9) ∧ σ 10 0 = nI w ∧ w ≤ 6
/-- the class's state with other answers of the roll r -/
def g5 (σ : St) (r : Nat) (a b c d : Int32) (cr : Nat → Int32) : St := fun i j => if i = r then (if j = 0 then a else if j = 1 then b else if j = 2 then c else if j = 3 then d else σ i j) else if i = r + 1 then cr j else σ i j
section
variable {σ : St} {r : Nat} {a b c d x : Int32} {cr : Nat → Int32}
theorem g5_0 : s_up (g5 σ r a b c d cr) r 0 x = g5 σ r x b c d cr := by
  funext i j; simp only [s_up, g5]; by_cases h : i = r <;> by_cases h2 : j = 0 <;> simp [h, h2]
theorem g5_1 : s_up (g5 σ r a b c d cr) r 1 x = g5 σ r a x c d cr := by
  funext i j; simp only [s_up, g5]; by_cases h : i = r <;> by_cases h2 : j = 0 <;> by_cases h3 : j = 1 <;> simp_all
theorem g5_2 : s_up (g5 σ r a b c d cr) r 2 x = g5 σ r a b x d cr := by
  funext i j; simp only [s_up, g5]; by_cases h : i = r <;> by_cases h2 : j = 0 <;> by_cases h3 : j = 1 <;> by_cases h4 : j = 2 <;> simp_all
theorem g5_3 : s_up (g5 σ r a b c d cr) r 3 x = g5 σ r a b c x cr := by
  funext i j; simp only [s_up, g5]; by_cases h : i = r <;> by_cases h2 : j = 0 <;> by_cases h3 : j = 1 <;> by_cases h4 : j = 2 <;> by_cases h5 : j = 3 <;> simp_all
theorem g5_c {k : Nat} : s_up (g5 σ r a b c d cr) (r + 1) k x = g5 σ r a b c d (upd cr k x) := by
  funext i j; simp only [s_up, g5, upd]; by_cases h : i = r
  · subst h; simp
  · by_cases h2 : i = r + 1 <;> by_cases h3 : j = k <;> simp_all
theorem g5_self : g5 σ r (σ r 0) (σ r 1) (σ r 2) (σ r 3) (σ (r + 1)) = σ := by
  funext i j; simp only [g5]; by_cases h : i = r
  · subst h; by_cases h2 : j = 0 <;> by_cases h3 : j = 1 <;> by_cases h4 : j = 2 <;> by_cases h5 : j = 3 <;> simp_all
  · by_cases h2 : i = r + 1 <;> simp_all
theorem g5_g5 {a' b' c' d' : Int32} {cr' : Nat → Int32} : g5 (g5 σ r a b c d cr) r a' b' c' d' cr' = g5 σ r a' b' c' d' cr' := by
  funext i j; simp only [g5]; by_cases h : i = r
  · subst h; by_cases h2 : j = 0 <;> by_cases h3 : j = 1 <;> by_cases h4 : j = 2 <;> by_cases h5 : j = 3 <;> simp_all
  · by_cases h2 : i = r + 1 <;> simp_all
theorem g5_o {i j : Nat} (h : i ≠ r) (h2 : i ≠ r + 1) : g5 σ r a b c d cr i j = σ i j := by unfold g5; rw [if_neg h, if_neg h2]
theorem g5_r0 : g5 σ r a b c d cr r 0 = a := by simp [g5]
theorem g5_r1 : g5 σ r a b c d cr r 1 = b := by simp [g5]
theorem g5_r2 : g5 σ r a b c d cr r 2 = c := by simp [g5]
theorem g5_r3 : g5 σ r a b c d cr r 3 = d := by simp [g5]
theorem g5_rc {j : Nat} : g5 σ r a b c d cr (r + 1) j = cr j := by simp [g5]
end
section
variable {σ : St} {w n : Nat} {sh : Nat → Nat → Bool} {hg gr : Nat → Nat}
theorem SR.g5 (R : SR σ w n sh hg gr) {r : Nat} (hr : 59 ≤ r) (a b c d : Int32) (cr : Nat → Int32) : SR (g5 σ r a b c d cr) w n sh hg gr := by
  obtain ⟨r0, r1, r2, r3, r4, r5, r6⟩ := R
  refine ⟨r0, fun i hi => ?_, fun i v hi hv hs => ?_, fun i hi => ?_, fun i hi => ?_, ?_, r6⟩
  · rw [g5_o (by omega) (by omega), g5_o (by omega) (by omega)]; exact r1 i hi
  · rw [g5_o (by omega) (by omega)]; exact r2 i v hi hv hs
  · rw [g5_o (by omega) (by omega)]; exact r3 i hi
  · rw [g5_o (by omega) (by omega)]; exact r4 i hi
  · rw [g5_o (by omega) (by omega)]; exact r5
theorem s_way_step (R : SR σ w n sh hg gr) {r i came fo k m mm : Nat} (ha : σ r 0 = nI i) (hi : i < n) (hc : came ≤ 4) (hf : fo ≤ 1) (hk : k < 4) (hmm : mm < 16) (hb : ∀ v, v < 4 → kbit mm v = sh i v) {q : Nat × Nat} (h1 : q.1 ≤ 4) (h2 : q.2 ≤ 9) : mX8_wayDown_38 r (m + 1) (nI fo) (e1 came) (nI mm) (nI q.2) (e1 q.1) (nI k) σ = mX8_wayDown_38 r m (nI fo) (e1 came) (nI mm) (nI (wst sh hg w i came q (ord fo k)).2) (e1 (wst sh hg w i came q (ord fo k)).1) (nI (k + 1)) σ := by
  obtain ⟨n30, r1, r2, r3, r4, r5, r6⟩ := R
  have ho : ord fo k < 4 := ord_lt hk
  have e : mX8_wayDown_38 r (m + 1) (nI fo) (e1 came) (nI mm) (nI q.2) (e1 q.1) (nI k) σ = mX8_wayDown_57 r (mX8_wayDown_38 r m) (nI fo) (e1 came) (nI mm) (nI q.2) (e1 q.1) (nI k) (nI (ord fo k)) σ := by
    rw [mX8_wayDown_38]
    simp only [li0, li3, li4]
    rw [if_pos (nI_lt (by omega) (by decide))]
    unfold ord
    rcases (show fo = 0 ∨ fo = 1 by omega) with rfl | rfl
    · rw [if_pos rfl, if_neg (by decide)]
    · rw [if_neg (by decide), if_pos rfl, sub_nI (by omega)]
  rw [e]
  generalize ord fo k = v at ho ⊢
  have fin : ∀ (b l : Nat), mX8_wayDown_147 r (mX8_wayDown_38 r m) (nI fo) (e1 came) (nI mm) (nI l) (e1 b) (nI k) σ = mX8_wayDown_38 r m (nI fo) (e1 came) (nI mm) (nI l) (e1 b) (nI (k + 1)) σ := by
    intro b l
    unfold mX8_wayDown_147
    rw [lt_t, li1, nI_add]
  have hbv := hb v ho
  unfold mX8_wayDown_57
  rw [ha, li4, pk_mul, nI_add, gd_t (ib_nI (by omega) (by decide)), nx_nI (by omega), lt_t, bit_nI (by omega) (by omega)]
  unfold wst
  cases hs : sh i v with
  | true =>
    rw [hs] at hbv
    have h1 : mm / 2 ^ v % 2 = 1 := by unfold kbit at hbv; simpa using hbv
    rw [h1, if_neg (by decide), if_pos rfl, fin]
  | false =>
    rw [hs] at hbv
    have h1' : mm / 2 ^ v % 2 = 0 := by
      unfold kbit at hbv
      have h3 : mm / 2 ^ v % 2 < 2 := Nat.mod_lt _ (by decide)
      have h4 : mm / 2 ^ v % 2 ≠ 1 := by simpa using hbv
      omega
    obtain ⟨b1, b2, -, -⟩ := r2 i v hi ho hs
    obtain ⟨g1, g2⟩ := r3 _ b2
    rw [h1', if_pos nI_0, b1, if_neg (nI_m1 (by omega)), gd_t (ib_nI (by omega) (by decide)), nx_nI (by omega), g1, lt_t, if_neg Bool.false_ne_true]
    have yes : mX8_wayDown_139 r (mX8_wayDown_38 r m) (nI fo) (e1 came) (nI mm) (nI k) (nI v) (nI (hg (nbr w i v))) σ = mX8_wayDown_38 r m (nI fo) (e1 came) (nI mm) (nI (hg (nbr w i v))) (e1 v) (nI (k + 1)) σ := by
      unfold mX8_wayDown_139
      rw [← e1_lt ho, fin]
    have h124 : mX8_wayDown_124 r (mX8_wayDown_38 r m) (nI fo) (e1 came) (nI mm) (nI q.2) (e1 q.1) (nI k) (nI v) (nI (hg (nbr w i v))) σ = if hg (nbr w i v) < q.2 then mX8_wayDown_38 r m (nI fo) (e1 came) (nI mm) (nI (hg (nbr w i v))) (e1 v) (nI (k + 1)) σ else mX8_wayDown_38 r m (nI fo) (e1 came) (nI mm) (nI q.2) (e1 q.1) (nI (k + 1)) σ := by
      unfold mX8_wayDown_124 mX8_wayDown_125
      by_cases c1 : hg (nbr w i v) < q.2
      · rw [if_pos (nI_lt c1 (by omega)), if_pos c1, yes]
      · rw [if_neg (nI_nlt (by omega) (by omega)), if_neg c1, if_pos rfl, fin]
    by_cases c2 : hg (nbr w i v) = q.2
    · rw [if_pos (by rw [c2])]
      by_cases c3 : q.1 = 4
      · rw [if_pos (by rw [e1_eq h1]; exact c3), h124, if_neg (by omega), if_neg (by rintro (h | ⟨-, h, -⟩) <;> omega)]
      · rw [if_neg (by rw [e1_eq h1]; exact c3)]
        by_cases c4 : v = came
        · rw [if_pos (by rw [e1_came ho hc]; exact c4), if_pos (Or.inr ⟨c2, c3, c4⟩)]
          unfold mX8_wayDown_125
          rw [if_neg (nI_nlt (by omega) (by omega)), if_neg (by decide), yes]
        · rw [if_neg (by rw [e1_came ho hc]; exact c4), h124, if_neg (by omega), if_neg (by rintro (h | ⟨-, -, h⟩) <;> omega)]
    · rw [if_neg (by rw [nI_inj (by omega) (by omega)]; exact c2), h124]
      by_cases c1 : hg (nbr w i v) < q.2
      · rw [if_pos c1, if_pos (Or.inl c1)]
      · rw [if_neg c1, if_neg (by rintro (h | ⟨h, -⟩) <;> omega)]
theorem s_wayDown (R : SR σ w n sh hg gr) {r i came fo : Nat} (ha : σ r 0 = nI i) (hi : i < n) (hc : came ≤ 4) (hf : fo ≤ 1) : mX8_wayDown r (nI fo) (e1 came) σ = some (e1 (wayA sh hg w fo came i), σ) := by
  have R0 := R
  obtain ⟨n30, r1, r2, r3, r4, r5, r6⟩ := R0
  obtain ⟨g1, g2⟩ := r3 i hi
  obtain ⟨mm, m1, m2, m3⟩ := r1 i hi
  unfold mX8_wayDown
  rw [ha, gd_t (ib_nI (by omega) (by decide)), gd_t (ib_nI (by omega) (by decide)), lt_t, gd_t (ib_nI (by omega) (by decide)), lt_t, nx_nI (by omega), m2, g1]
  have st : ∀ k, k < 4 → ∀ m, mX8_wayDown_38 r (m + 1) (nI fo) (e1 came) (nI mm) (nI (wayK sh hg w fo came i k).2) (e1 (wayK sh hg w fo came i k).1) (nI k) σ = mX8_wayDown_38 r m (nI fo) (e1 came) (nI mm) (nI (wayK sh hg w fo came i (k + 1)).2) (e1 (wayK sh hg w fo came i (k + 1)).1) (nI (k + 1)) σ := by
    intro k hk m
    have := wayK_le (sh := sh) (hg := hg) (w := w) (fo := fo) (came := came) (i := i) k (by omega)
    exact s_way_step R ha hi hc hf hk m1 m3 this.1 (by omega)
  have s0 := st 0 (by decide) 19999
  have s1 := st 1 (by decide) 19998
  have s2 := st 2 (by decide) 19997
  have s3 := st 3 (by decide) 19996
  have e0 : mX8_wayDown_38 r FU (nI fo) (e1 came) (nI mm) (nI (hg i)) (-1) 0 σ = mX8_wayDown_38 r (19999 + 1) (nI fo) (e1 came) (nI mm) (nI (wayK sh hg w fo came i 0).2) (e1 (wayK sh hg w fo came i 0).1) (nI 0) σ := rfl
  rw [e0, s0, s1, s2, s3, mX8_wayDown_38, if_neg (by decide)]
  rfl
end

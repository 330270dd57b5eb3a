/-! pure: how many bits -/
theorem ushr_nI {m : Nat} (hm : m < 2 ^ 31) (k : Nat) (hk : k < 32) : i_ushr (nI m) (nI k) = nI (m / 2 ^ k) := by
  have e : i_ushr (nI m) (nI k) = (Int32.toUInt32 (nI m) >>> UInt32.ofNat k).toInt32 := by
    have : ∀ k, k < 32 → (Int32.toUInt32 (nI k) &&& Int32.toUInt32 31) = UInt32.ofNat k := by decide +kernel
    unfold i_ushr
    rw [this k hk]
  rw [e]
  have hd : m / 2 ^ k ≤ m := Nat.div_le_self m _
  have u : (Int32.toUInt32 (nI m) >>> UInt32.ofNat k) = UInt32.ofNat (m / 2 ^ k) := by
    apply UInt32.toNat_inj.mp
    rw [UInt32.toNat_shiftRight, UInt32.toNat_ofNat', UInt32.toNat_ofNat', Nat.mod_eq_of_lt (show k < 2 ^ 32 by omega), Nat.mod_eq_of_lt hk, Nat.shiftRight_eq_div_pow, Nat.mod_eq_of_lt (show m / 2 ^ k < 2 ^ 32 by omega)]
    have : (Int32.toUInt32 (nI m)).toNat = m := pk_tn (by omega)
    rw [this]
  rw [u]
  rfl
def pop8 (b : Nat) : Nat := sumN (fun j => b / 2 ^ j % 2) 8
def f1 (b : Nat) : Nat := b - (b / 2 &&& 85)
def f2 (b : Nat) : Nat := (f1 b &&& 51) + (f1 b / 4 &&& 51)
theorem by1 : ∀ b, b < 256 → ∀ e, e < 2 → ((b / 2 + 128 * e) &&& 85) = (b / 2 &&& 85) := by decide +kernel
theorem by1' : ∀ b, b < 256 → (b / 2 &&& 85) ≤ b ∧ f1 b < 256 ∧ f2 b ≤ 68 ∧ f2 b % 16 ≤ 4 ∧ pop8 b ≤ 8 ∧ f1 b ≤ b := by decide +kernel
theorem by2 : ∀ b, b < 256 → ∀ e, e < 4 → ((b / 4 + 64 * e) &&& 51) = (b / 4 &&& 51) := by decide +kernel
theorem by3 : ∀ b, b < 256 → ∀ e, e < 5 → ((f2 b + f2 b / 16 + 16 * e) &&& 15) = pop8 b := by decide +kernel
theorem and2 {a c A C : Nat} (ha : a < 256) (hc : c < 256) : ((a + 256 * A) &&& (c + 256 * C)) = (a &&& c) + 256 * (A &&& C) := by
  have h1 : ((a + 256 * A) &&& (c + 256 * C)) % 2 ^ 8 = (a + 256 * A) % 2 ^ 8 &&& (c + 256 * C) % 2 ^ 8 := Nat.and_mod_two_pow
  have h2 : ((a + 256 * A) &&& (c + 256 * C)) / 2 ^ 8 = (a + 256 * A) / 2 ^ 8 &&& (c + 256 * C) / 2 ^ 8 := Nat.and_div_two_pow
  rw [show (a + 256 * A) % 2 ^ 8 = a by omega, show (c + 256 * C) % 2 ^ 8 = c by omega] at h1
  rw [show (a + 256 * A) / 2 ^ 8 = A by omega, show (c + 256 * C) / 2 ^ 8 = C by omega] at h2
  omega
theorem and4 {a b c d k : Nat} (ha : a < 256) (hb : b < 256) (hc : c < 256) (hk : k < 256) : ((a + 256 * (b + 256 * (c + 256 * d))) &&& (k + 256 * (k + 256 * (k + 256 * k)))) = (a &&& k) + 256 * ((b &&& k) + 256 * ((c &&& k) + 256 * (d &&& k))) := by
  rw [and2 ha hk, and2 hb hk, and2 hc hk]
theorem swar {a b c d : Nat} (ha : a < 256) (hb : b < 256) (hc : c < 256) (hd : d < 64) (σ : St) : mJ6_bitCount (nI (a + 256 * (b + 256 * (c + 256 * d)))) σ = some (nI (pop8 a + pop8 b + pop8 c + pop8 d), σ) := by
  obtain ⟨a1, a2, a3, a4, a5, a6⟩ := by1' a ha
  obtain ⟨b1, b2, b3, b4, b5, b6⟩ := by1' b hb
  obtain ⟨c1, c2, c3, c4, c5, c6⟩ := by1' c hc
  obtain ⟨d1, d2, d3, d4, d5, d6⟩ := by1' d (by omega)
  have s1 : nI (a + 256 * (b + 256 * (c + 256 * d))) - (i_ushr (nI (a + 256 * (b + 256 * (c + 256 * d)))) 1 &&& 1431655765) = nI (f1 a + 256 * (f1 b + 256 * (f1 c + 256 * f1 d))) := by
    rw [li1, ushr_nI (by omega) 1 (by decide), show (a + 256 * (b + 256 * (c + 256 * d))) / 2 ^ 1 = (a / 2 + 128 * (b % 2)) + 256 * ((b / 2 + 128 * (c % 2)) + 256 * ((c / 2 + 128 * (d % 2)) + 256 * (d / 2 + 128 * 0))) by omega, show (1431655765 : Int32) = nI (85 + 256 * (85 + 256 * (85 + 256 * 85))) from rfl, and_nI, and4 (by omega) (by omega) (by omega) (by omega), by1 a ha _ (by omega), by1 b hb _ (by omega), by1 c hc _ (by omega), by1 d (by omega) _ (by omega), sub_nI (by omega)]
    congr 1
    unfold f1
    omega
  have s2 : (nI (f1 a + 256 * (f1 b + 256 * (f1 c + 256 * f1 d))) &&& 858993459) + (i_ushr (nI (f1 a + 256 * (f1 b + 256 * (f1 c + 256 * f1 d)))) 2 &&& 858993459) = nI (f2 a + 256 * (f2 b + 256 * (f2 c + 256 * f2 d))) := by
    rw [li2, ushr_nI (by omega) 2 (by decide), show (f1 a + 256 * (f1 b + 256 * (f1 c + 256 * f1 d))) / 2 ^ 2 = (f1 a / 4 + 64 * (f1 b % 4)) + 256 * ((f1 b / 4 + 64 * (f1 c % 4)) + 256 * ((f1 c / 4 + 64 * (f1 d % 4)) + 256 * (f1 d / 4 + 64 * 0))) by omega, show (858993459 : Int32) = nI (51 + 256 * (51 + 256 * (51 + 256 * 51))) from rfl, and_nI, and_nI, and4 a2 b2 c2 (by omega), and4 (by omega) (by omega) (by omega) (by omega), by2 _ a2 _ (by omega), by2 _ b2 _ (by omega), by2 _ c2 _ (by omega), by2 _ d2 _ (by omega), nI_add]
    congr 1
    unfold f2
    omega
  have s3 : (nI (f2 a + 256 * (f2 b + 256 * (f2 c + 256 * f2 d))) + i_ushr (nI (f2 a + 256 * (f2 b + 256 * (f2 c + 256 * f2 d)))) 4) &&& 252645135 = nI (pop8 a + 256 * (pop8 b + 256 * (pop8 c + 256 * pop8 d))) := by
    rw [li4, ushr_nI (by omega) 4 (by decide), nI_add, show f2 a + 256 * (f2 b + 256 * (f2 c + 256 * f2 d)) + (f2 a + 256 * (f2 b + 256 * (f2 c + 256 * f2 d))) / 2 ^ 4 = (f2 a + f2 a / 16 + 16 * (f2 b % 16)) + 256 * ((f2 b + f2 b / 16 + 16 * (f2 c % 16)) + 256 * ((f2 c + f2 c / 16 + 16 * (f2 d % 16)) + 256 * (f2 d + f2 d / 16 + 16 * 0))) by omega, show (252645135 : Int32) = nI (15 + 256 * (15 + 256 * (15 + 256 * 15))) from rfl, and_nI, and4 (by omega) (by omega) (by omega) (by omega), by3 a ha _ (by omega), by3 b hb _ (by omega), by3 c hc _ (by omega), by3 d (by omega) _ (by omega)]
  have s4 : nI (pop8 a + 256 * (pop8 b + 256 * (pop8 c + 256 * pop8 d))) + i_ushr (nI (pop8 a + 256 * (pop8 b + 256 * (pop8 c + 256 * pop8 d)))) 8 = nI ((pop8 a + pop8 b) + 256 * ((pop8 b + pop8 c) + 256 * ((pop8 c + pop8 d) + 256 * pop8 d))) := by
    rw [show (8 : Int32) = nI 8 from rfl, ushr_nI (by omega) 8 (by decide), nI_add]
    congr 1
    omega
  have s5 : nI ((pop8 a + pop8 b) + 256 * ((pop8 b + pop8 c) + 256 * ((pop8 c + pop8 d) + 256 * pop8 d))) + i_ushr (nI ((pop8 a + pop8 b) + 256 * ((pop8 b + pop8 c) + 256 * ((pop8 c + pop8 d) + 256 * pop8 d)))) 16 = nI ((pop8 a + pop8 b + pop8 c + pop8 d) + 256 * ((pop8 b + pop8 c + pop8 d) + 256 * ((pop8 c + pop8 d) + 256 * pop8 d))) := by
    rw [show (16 : Int32) = nI 16 from rfl, ushr_nI (by omega) 16 (by decide), nI_add]
    congr 1
    omega
  unfold mJ6_bitCount
  simp only [lt_t]
  rw [s1, s2, s3, s4, s5, pk_andN (n := (pop8 a + pop8 b + pop8 c + pop8 d) + 256 * ((pop8 b + pop8 c + pop8 d) + 256 * ((pop8 c + pop8 d) + 256 * pop8 d))) (by omega) (m := 63) 6 (by decide)]
  congr 3
  omega
theorem sumN_ext {f f' : Nat → Nat} : ∀ n, (∀ j, j < n → f j = f' j) → sumN f n = sumN f' n
  | 0, _ => rfl
  | n + 1, h => by show sumN f n + f n = sumN f' n + f' n; rw [sumN_ext n (fun j hj => h j (by omega)), h n (by omega)]
theorem sumN_add (f : Nat → Nat) (a : Nat) : ∀ n, sumN f (a + n) = sumN f a + sumN (fun j => f (a + j)) n
  | 0 => rfl
  | n + 1 => by show sumN f (a + n) + f (a + n) = _ + (_ + f (a + n)); rw [sumN_add f a n]; omega
/-- how many of the first n bits -/
def popc (m n : Nat) : Nat := sumN (fun j => m / 2 ^ j % 2) n
theorem popc_8 (a A n : Nat) (ha : a < 256) : popc (a + 256 * A) (8 + n) = pop8 a + popc A n := by
  unfold popc pop8
  rw [sumN_add]
  congr 1
  · refine sumN_ext 8 (fun j hj => ?_)
    rcases (show j = 0 ∨ j = 1 ∨ j = 2 ∨ j = 3 ∨ j = 4 ∨ j = 5 ∨ j = 6 ∨ j = 7 by omega) with rfl | rfl | rfl | rfl | rfl | rfl | rfl | rfl <;> omega
  · refine sumN_ext n (fun j hj => ?_)
    rw [Nat.pow_add, ← Nat.div_div_eq_div_mul, show (a + 256 * A) / 2 ^ 8 = A by omega]
theorem pop6 : ∀ d, d < 64 → popc d 6 = pop8 d := by decide +kernel
theorem s_bitCount {m : Nat} (hm : m < 2 ^ 30) (σ : St) : mJ6_bitCount (nI m) σ = some (nI (popc m 30), σ) := by
  have e : m = m % 256 + 256 * (m / 256 % 256 + 256 * (m / 65536 % 256 + 256 * (m / 16777216))) := by omega
  rw [e, swar (by omega) (by omega) (by omega) (by omega), show (30 : Nat) = 8 + (8 + (8 + 6)) from rfl, popc_8 _ _ _ (by omega), popc_8 _ _ _ (by omega), popc_8 _ _ _ (by omega), pop6 _ (by omega)]
  congr 3
  omega
theorem m_bits_loop {m : Nat} (hm : m < 2 ^ 30) {τ : St} : ∀ (q N i : Nat), i + q = 30 → mX12_bits_4 (N + q + 1) (nI m) (nI (popc m i)) (nI i) τ = some (nI (popc m 30), τ)
  | 0, N, i, e => by
    rw [show N + 0 + 1 = N + 1 from rfl, mX12_bits_4, show (30 : Int32) = nI 30 from rfl, if_neg (nI_nlt (by omega) (by omega)), show i = 30 by omega]
  | q + 1, N, i, e => by
    rw [show N + (q + 1) + 1 = (N + q + 1) + 1 from rfl, mX12_bits_4, show (30 : Int32) = nI 30 from rfl, if_pos (nI_lt (by omega) (by omega)), bit_nI (by omega) (by omega), nI_add, lt_t, lt_t, li1, nI_add]
    exact m_bits_loop hm q N (i + 1) (by omega)
theorem m_bits {m : Nat} (hm : m < 2 ^ 30) (τ : St) : mX12_bits (nI m) τ = some (nI (popc m 30), τ) := m_bits_loop hm 30 19969 0 (by omega)
theorem popc_le (m : Nat) : ∀ n, popc m n ≤ n
  | 0 => Nat.le_refl _
  | n + 1 => by have := popc_le m n; show popc m n + m / 2 ^ n % 2 ≤ n + 1; omega
theorem orF_lt {f : Nat → Bool} : ∀ (m acc i : Nat), acc < 2 ^ (i + m) → orF f acc i m < 2 ^ (i + m)
  | 0, acc, i, h => h
  | m + 1, acc, i, h => by
    unfold orF
    rw [show i + (m + 1) = i + 1 + m by omega] at h ⊢
    refine orF_lt m _ (i + 1) (Nat.or_lt_two_pow h ?_)
    split
    · exact Nat.pow_lt_pow_right (by decide) (by omega)
    · exact Nat.pow_pos (by decide)

/-! pure: numbers, and the words of the models -/
theorem gd_t {α : Type} {c : Prop} [Decidable c] (h : c) (k : Option α) : gd c k = k := if_pos h
theorem bd_t {ρ α : Type} (r : ρ) (s : St) (k : ρ → St → Option α) : bd (some (r, s)) k = k r s := rfl
theorem lt_t {α β : Type} (v : α) (k : α → Option β) : lt v k = k v := rfl
theorem li0 : (0 : Int32) = nI 0 := id rfl
theorem li1 : (1 : Int32) = nI 1 := id rfl
theorem li2 : (2 : Int32) = nI 2 := id rfl
theorem li3 : (3 : Int32) = nI 3 := id rfl
theorem li4 : (4 : Int32) = nI 4 := id rfl
theorem li10 : (10 : Int32) = nI 10 := id rfl
theorem nx_nI {a : Nat} (h : a < 2 ^ 31) : nx (nI a) = a := nI_clamp h
theorem ib_nI {a n : Nat} (h : a < n) (hn : n < 2 ^ 31) : ib (nI a) n := vp_in_nI h hn
theorem rem_nI {a d : Nat} (ha : a < 2 ^ 31) (h0 : 0 < d) (hd : d < 2 ^ 31) : i_rem (nI a) (nI d) = nI (a % d) := pk_rem ha h0 hd
theorem div_nI {a d : Nat} (ha : a < 2 ^ 31) (h0 : 0 < d) (hd : d < 2 ^ 31) : nI a / nI d = nI (a / d) := pk_div ha h0 hd
theorem nI_nz {a : Nat} (h0 : 0 < a) (h : a < 2 ^ 31) : ¬ nI a = 0 := nI_ne0 h0 h
theorem smod32 : ∀ k, k < 32 → ((nI k).toBitVec.smod 32).toNat = k := by decide +kernel
theorem sh31 {k : Nat} (h : k < 32) : nI k &&& 31 = nI k := by
  rw [pk_andN (n := k) (by omega) (m := 31) 5 (by decide), Nat.mod_eq_of_lt h]
theorem shr_nI {m k : Nat} (hm : m < 2 ^ 31) (hk : k < 32) : i_shr (nI m) (nI k) = nI (m / 2 ^ k) := by
  unfold i_shr
  rw [sh31 hk]
  exact pk_shrN hm _ k (smod32 k hk)
theorem shl_nI {m k : Nat} (hk : k < 32) (h : m * 2 ^ k < 2 ^ 32) : i_shl (nI m) (nI k) = nI (m * 2 ^ k) := by
  unfold i_shl
  rw [sh31 hk]
  exact pk_shlN _ k (smod32 k hk) h
theorem and1_nI {n : Nat} (h : n < 2 ^ 32) : nI n &&& 1 = nI (n % 2) := pk_andN h 1 (by decide)
theorem bit_nI {m k : Nat} (hm : m < 2 ^ 31) (hk : k < 32) : i_shr (nI m) (nI k) &&& 1 = nI (m / 2 ^ k % 2) := by
  rw [shr_nI hm hk, and1_nI (by have := Nat.div_le_self m (2 ^ k); omega)]
theorem nI_inj {a b : Nat} (ha : a < 2 ^ 31) (hb : b < 2 ^ 31) : (nI a = nI b) = (a = b) := propext (nI_eq ha hb)
theorem nI_ltp {a b : Nat} (ha : a < 2 ^ 31) (hb : b < 2 ^ 31) : (nI a < nI b) = (a < b) := propext (nI_ltI ha hb)
theorem sub_nI {a b : Nat} (h : b ≤ a) : nI a - nI b = nI (a - b) := pk_sub h
/-- a truth value as a number -/
def z1 (c : Bool) : Int32 := if c then 1 else 0
theorem z1_t : z1 true = 1 := rfl
theorem z1_f : z1 false = 0 := rfl
theorem zb_z1 (c : Bool) : zb (z1 c) := by cases c <;> decide
theorem z1_eq0 (c : Bool) : (z1 c = 0) = (c = false) := by cases c <;> decide
theorem lg_lt (x y : Int64) : lg_cmp x y < 0 ↔ x < y := by
  unfold lg_cmp
  split
  · rename_i h
    constructor
    · intro h2; exact absurd h2 (by decide)
    · intro h2; have h : y < x := h; rw [Int64.lt_iff_toInt_lt] at h h2; omega
  · split
    · rename_i h h2
      subst h2
      constructor
      · intro h3; exact absurd h3 (by decide)
      · intro h3; exact absurd h3 h
    · rename_i h h2
      constructor
      · intro _
        have h : ¬ y < x := h
        rw [Int64.lt_iff_toInt_lt] at h ⊢
        have : x.toInt ≠ y.toInt := fun e => h2 (Int64.toInt_inj.mp e)
        omega
      · intro _; decide
theorem lg_gt (x y : Int64) : 0 < lg_cmp x y ↔ y < x := by
  unfold lg_cmp
  split
  · rename_i h; exact ⟨fun _ => h, fun _ => by decide⟩
  · split
    · rename_i h h2; exact ⟨fun h3 => absurd h3 (by decide), fun h3 => absurd h3 h⟩
    · rename_i h h2; exact ⟨fun h3 => absurd h3 (by decide), fun h3 => absurd h3 h⟩
theorem wide_lt (a b : Int32) : a.toInt64 < b.toInt64 ↔ a < b := by
  rw [Int64.lt_iff_toInt_lt, Int32.lt_iff_toInt_lt, Int32.toInt_toInt64, Int32.toInt_toInt64]
/-- 'in': for numbers that were ints -/
theorem m_in (v a b : Int32) (τ : St) : mX12_in v.toInt64 a.toInt64 b.toInt64 τ = some (z1 (decide (¬ v < a ∧ ¬ b < v)), τ) := by
  unfold mX12_in
  by_cases h1 : v < a
  · rw [if_pos ((lg_lt _ _).mpr ((wide_lt _ _).mpr h1))]
    simp [h1, z1]
  · rw [if_neg (fun h => h1 ((wide_lt _ _).mp ((lg_lt _ _).mp h)))]
    by_cases h2 : b < v
    · rw [if_pos ((lg_gt _ _).mpr ((wide_lt _ _).mpr h2))]
      simp [h2, z1]
    · rw [if_neg (fun h => h2 ((wide_lt _ _).mp ((lg_gt _ _).mp h)))]
      simp [h1, h2, z1]
theorem l0_i : (0 : Int64) = (0 : Int32).toInt64 := by decide
theorem nlt_pred {x : Int32} {w : Nat} (h : w < 2 ^ 30) : (¬ x < 0 ∧ ¬ (nI w - 1 < x)) ↔ ∃ a, a < w ∧ x = nI a := by
  have e1 : (1 : Int32) = nI 1 := rfl
  have e2 : (nI w - nI 1).toInt = (w : Int) - (1 : Nat) := pk_sub_toInt h (by decide)
  constructor
  · rintro ⟨h1, h2⟩
    obtain ⟨j, hj, rfl⟩ := nI_of h1
    refine ⟨j, ?_, rfl⟩
    rw [e1, Int32.lt_iff_toInt_lt, e2, nI_toInt hj] at h2
    omega
  · rintro ⟨a, ha, rfl⟩
    refine ⟨nI_pos (by omega), ?_⟩
    rw [e1, Int32.lt_iff_toInt_lt, e2, nI_toInt (by omega)]
    omega

/-! pure: first found; sets of cells -/
def fs (f : Nat → Option Nat) : Nat → Nat → Option Nat
  | _, 0 => none
  | i, m + 1 => match f i with
    | some x => some x
    | none => fs f (i + 1) m
def oE (o o' : Option Nat) : Option Nat := match o with
  | some x => some x
  | none => o'
def oe (o : Option Nat) : Int32 := match o with
  | some x => nI x
  | none => -9
def oe1 (o : Option Nat) : Int32 := match o with
  | some x => nI x
  | none => -1
def ift (c : Bool) (x : Nat) : Option Nat := if c then some x else none
theorem fs_s {f : Nat → Option Nat} {i m x : Nat} (h : f i = some x) : fs f i (m + 1) = some x := by unfold fs; rw [h]
theorem fs_n {f : Nat → Option Nat} {i m : Nat} (h : f i = none) : fs f i (m + 1) = fs f (i + 1) m := by rw [fs, h]
theorem fs_one (f : Nat → Option Nat) (i : Nat) : fs f i 1 = f i := by
  cases h : f i with
  | some x => exact fs_s h
  | none => rw [fs_n h]; rfl
theorem fs_ext {f f' : Nat → Option Nat} : ∀ (m i : Nat), (∀ j, i ≤ j → j < i + m → f j = f' j) → fs f i m = fs f' i m
  | 0, _, _ => rfl
  | m + 1, i, h => by
    unfold fs
    rw [h i (Nat.le_refl _) (by omega), fs_ext m (i + 1) (fun j h1 h2 => h j (by omega) (by omega))]
theorem fs_map {p : Nat → Bool} {g : Nat → Nat} : ∀ (m i : Nat), fs (fun l => ift (p l) (g l)) i m = (fs (fun l => ift (p l) l) i m).map g
  | 0, _ => rfl
  | m + 1, i => by
    unfold fs
    cases h : p i with
    | true => simp [ift, h]
    | false => simp only [ift, h, Bool.false_eq_true, if_false]; exact fs_map m (i + 1)
theorem fs_mem {f : Nat → Option Nat} {x : Nat} : ∀ (m i : Nat), fs f i m = some x → ∃ j, i ≤ j ∧ j < i + m ∧ f j = some x
  | 0, _, h => by cases h
  | m + 1, i, h => by
    cases hf : f i with
    | some y =>
      rw [fs_s hf] at h
      exact ⟨i, Nat.le_refl _, by omega, by rw [hf, h]⟩
    | none =>
      rw [fs_n hf] at h
      obtain ⟨j, h1, h2, h3⟩ := fs_mem m (i + 1) h
      exact ⟨j, by omega, by omega, h3⟩
/-- marks of a list, as bits -/
def tbL (f : Nat × Nat → Bool) : List (Nat × Nat) → Nat
  | [] => 0
  | q :: L => tbL f L ||| if f q then 2 ^ L.length else 0
theorem tbL_n (f : Nat × Nat → Bool) : tbL f [] = 0 := by rw [tbL]
theorem tbL_c (f : Nat × Nat → Bool) (q : Nat × Nat) (L : List (Nat × Nat)) : tbL f (q :: L) = tbL f L ||| if f q then 2 ^ L.length else 0 := by rw [tbL]
theorem tbL_lt (f : Nat × Nat → Bool) : ∀ L : List (Nat × Nat), tbL f L < 2 ^ L.length
  | [] => by rw [tbL_n]; decide
  | q :: L => by
    have := tbL_lt f L
    rw [tbL_c]
    refine Nat.or_lt_two_pow ?_ ?_
    · rw [List.length_cons, Nat.pow_succ]; omega
    · rw [List.length_cons]
      split
      · exact Nat.pow_lt_pow_right (by decide) (by omega)
      · exact Nat.pow_pos (by decide)
theorem or_pow {a n : Nat} (h : a < 2 ^ n) : a ||| 2 ^ n = 2 ^ n + a := by
  have := Nat.two_pow_add_eq_or_of_lt h 1
  rw [Nat.mul_one] at this
  rw [this, Nat.or_comm]
theorem tbL_all (f : Nat × Nat → Bool) : ∀ L : List (Nat × Nat), tbL f L = tbL (fun _ => true) L ↔ ∀ q ∈ L, f q = true
  | [] => by rw [tbL_n, tbL_n]; simp
  | q :: L => by
    have h1 := tbL_lt f L
    have h2 := tbL_lt (fun _ => true) L
    have ih := tbL_all f L
    have e : tbL (fun _ => true) (q :: L) = 2 ^ L.length + tbL (fun _ => true) L := by
      rw [tbL_c, if_pos rfl]; exact or_pow h2
    rw [e, tbL_c]
    constructor
    · intro h
      cases c : f q with
      | true =>
        rw [c, if_pos rfl, or_pow h1] at h
        have := ih.mp (by omega)
        intro r hr
        rcases List.mem_cons.mp hr with rfl | hr
        · exact c
        · exact this r hr
      | false =>
        rw [c, if_neg Bool.false_ne_true, Nat.or_zero] at h
        omega
    · intro h
      rw [h q (List.mem_cons.mpr (Or.inl rfl)), if_pos rfl, or_pow h1, ih.mpr (fun r hr => h r (List.mem_cons.mpr (Or.inr hr)))]
theorem tbL_or (f g : Nat × Nat → Bool) : ∀ L : List (Nat × Nat), tbL f L ||| tbL g L = tbL (fun q => f q || g q) L
  | [] => by rw [tbL_n, tbL_n, tbL_n]; rfl
  | q :: L => by
    rw [tbL_c, tbL_c, tbL_c, ← tbL_or f g L]
    have key : ∀ a b c d : Nat, (a ||| b) ||| (c ||| d) = (a ||| c) ||| (b ||| d) := by
      intro a b c d
      rw [Nat.or_assoc, Nat.or_assoc, ← Nat.or_assoc b c d, Nat.or_comm b c, Nat.or_assoc c b d]
    rw [key]
    congr 1
    cases f q <;> cases g q <;> simp
theorem orF_tb {f : Nat → Bool} : ∀ (m acc i k : Nat), (orF f acc i m).testBit k = (acc.testBit k || (decide (i ≤ k ∧ k < i + m) && f k))
  | 0, acc, i, k => by
    unfold orF
    rw [decide_eq_false (by omega)]
    simp
  | m + 1, acc, i, k => by
    unfold orF
    rw [orF_tb m, Nat.testBit_or]
    by_cases c : k = i
    · subst c
      rw [decide_eq_false (show ¬ (k + 1 ≤ k ∧ k < k + 1 + m) by omega), decide_eq_true (show k ≤ k ∧ k < k + (m + 1) by omega)]
      cases f k <;> simp
    · have e : (if f i = true then 2 ^ i else 0).testBit k = false := by
        split
        · rw [Nat.testBit_two_pow]; exact decide_eq_false (fun h => c h.symm)
        · exact Nat.zero_testBit k
      rw [e, Bool.or_false]
      congr 2
      exact decide_eq_decide.mpr (by omega)
def st3 (a b c : Nat) : Nat := 2 ^ a ||| 2 ^ b ||| 2 ^ c
theorem and_st3 (X a b c : Nat) : X &&& st3 a b c = 0 ↔ (X.testBit a = false ∧ X.testBit b = false ∧ X.testBit c = false) := by
  unfold st3
  constructor
  · intro h
    have k : ∀ j, (X.testBit j && (decide (a = j) || decide (b = j) || decide (c = j))) = false := by
      intro j
      have := congrArg (fun z => Nat.testBit z j) h
      simp only [Nat.testBit_and, Nat.testBit_or, Nat.testBit_two_pow, Nat.zero_testBit] at this
      exact this
    refine ⟨?_, ?_, ?_⟩
    · have := k a; simpa using this
    · have := k b; simpa using this
    · have := k c; simpa using this
  · rintro ⟨h1, h2, h3⟩
    apply Nat.eq_of_testBit_eq
    intro j
    simp only [Nat.testBit_and, Nat.testBit_or, Nat.testBit_two_pow, Nat.zero_testBit]
    by_cases ca : a = j
    · subst ca; rw [h1]; rfl
    · by_cases cb : b = j
      · subst cb; rw [h2]; rfl
      · by_cases cc : c = j
        · subst cc; rw [h3]; rfl
        · simp [ca, cb, cc]
theorem st3_lt {a b c n : Nat} (ha : a < n) (hb : b < n) (hc : c < n) : st3 a b c < 2 ^ n := Nat.or_lt_two_pow (Nat.or_lt_two_pow (Nat.pow_lt_pow_right (by decide) ha) (Nat.pow_lt_pow_right (by decide) hb)) (Nat.pow_lt_pow_right (by decide) hc)
/-- the sets of n cells, in their order -/
def vld (n a b c : Nat) : Prop := (n = 1 ∧ b = a ∧ c = b) ∨ (n = 2 ∧ b < a ∧ c = b) ∨ (n = 3 ∧ b < a ∧ c < b)
def le3 (a b c a' b' c' : Nat) : Prop := a < a' ∨ (a = a' ∧ (b < b' ∨ (b = b' ∧ c ≤ c')))
theorem p2 {a b : Nat} (h : a < b) : 2 * 2 ^ a ≤ 2 ^ b := by
  have : 2 ^ (a + 1) ≤ 2 ^ b := Nat.pow_le_pow_right (by decide) h
  rw [Nat.pow_succ] at this
  omega
theorem st3_1 (a : Nat) : st3 a a a = 2 ^ a := by unfold st3; rw [Nat.or_self, Nat.or_self]
theorem st3_2 {a b : Nat} (h : b < a) : st3 a b b = 2 ^ a + 2 ^ b := by
  unfold st3
  rw [Nat.or_assoc, Nat.or_self, Nat.or_comm, or_pow (Nat.pow_lt_pow_right (by decide) h)]
theorem st3_3 {a b c : Nat} (h : b < a) (h2 : c < b) : st3 a b c = 2 ^ a + 2 ^ b + 2 ^ c := by
  unfold st3
  have l1 := p2 h
  have l2 := p2 h2
  have z : 0 < 2 ^ c := Nat.pow_pos (by decide)
  rw [Nat.or_assoc, Nat.or_comm (2 ^ b), or_pow (Nat.pow_lt_pow_right (by decide) h2), Nat.or_comm, or_pow (by omega)]
  omega
theorem st3_mono {n a b c a' b' c' : Nat} (h : vld n a b c) (h' : vld n a' b' c') (l : le3 a b (c + 1) a' b' c') : st3 a b c < st3 a' b' c' := by
  rcases h with ⟨rfl, rfl, rfl⟩ | ⟨rfl, h1, rfl⟩ | ⟨rfl, h1, h2⟩
  · rcases h' with ⟨-, rfl, rfl⟩ | ⟨h, -⟩ | ⟨h, -⟩
    · rw [st3_1, st3_1]
      unfold le3 at l
      exact Nat.pow_lt_pow_right (by decide) (by omega)
    · omega
    · omega
  · rcases h' with ⟨h, -⟩ | ⟨-, k1, rfl⟩ | ⟨h, -⟩
    · omega
    · rw [st3_2 h1, st3_2 k1]
      have l1 := p2 h1
      have l2 := p2 k1
      unfold le3 at l
      rcases (show a < a' ∨ (a = a' ∧ c < c') by omega) with q | ⟨rfl, q⟩
      · have := p2 q
        have : 0 < 2 ^ c := Nat.pow_pos (by decide)
        omega
      · have := p2 q
        have : 0 < 2 ^ c := Nat.pow_pos (by decide)
        omega
    · omega
  · rcases h' with ⟨h, -⟩ | ⟨h, -⟩ | ⟨-, k1, k2⟩
    · omega
    · omega
    · rw [st3_3 h1 h2, st3_3 k1 k2]
      have l1 := p2 h1
      have l2 := p2 h2
      have l3 := p2 k1
      have l4 := p2 k2
      have z : 0 < 2 ^ c := Nat.pow_pos (by decide)
      unfold le3 at l
      rcases (show a < a' ∨ (a = a' ∧ (b < b' ∨ (b = b' ∧ c < c'))) by omega) with q | ⟨rfl, q | ⟨rfl, q⟩⟩
      · have := p2 q; omega
      · have := p2 q; omega
      · have := p2 q; omega

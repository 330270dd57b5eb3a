/-! pure: planks: a side from both its cells -/
theorem cell_q {w q r : Nat} (hr : r < w) : (w * q + r) % w = r ∧ (w * q + r) / w = q := by
  refine ⟨?_, ?_⟩
  · rw [Nat.mul_add_mod, Nat.mod_eq_of_lt hr]
  · rw [Nat.mul_add_div (by omega), Nat.div_eq_of_lt hr, Nat.add_zero]
theorem edge_at {w h q r : Nat} (hr : r < w) : edge w h (w * q + r) 0 = (q == 0) ∧ edge w h (w * q + r) 1 = (r == w - 1) ∧ edge w h (w * q + r) 2 = (q == h - 1) ∧ edge w h (w * q + r) 3 = (r == 0) := by
  obtain ⟨h1, h2⟩ := cell_q (q := q) hr
  unfold edge
  rw [h1, h2]
  exact ⟨rfl, rfl, rfl, rfl⟩
theorem edge_nbr {w h i v : Nat} (hi : i < w * h) (hv : v < 4) (he : edge w h i v = false) : edge w h (nbr w i v) ((v + 2) % 4) = false ∧ nbr w i v ≠ i ∧ nbr w i v < w * h := by
  have hw := pos_of hi
  refine ⟨?_, ?_, nbr_lt hw hi hv he⟩
  · have hq := div_lt_of hi
    have hr := Nat.mod_lt i hw
    have ei : i = w * (i / w) + i % w := (Nat.div_add_mod i w).symm
    generalize i / w = q at *
    generalize i % w = r at *
    subst ei
    obtain ⟨e0, e1, e2, e3⟩ := edge_at (h := h) (q := q) hr
    rcases four hv with rfl | rfl | rfl | rfl
    · rw [e0] at he
      have hq0 : q ≠ 0 := by simpa using he
      obtain ⟨p, rfl⟩ : ∃ p, q = p + 1 := ⟨q - 1, by omega⟩
      show edge w h (w * (p + 1) + r - w) 2 = false
      rw [show w * (p + 1) + r - w = w * p + r by rw [Nat.mul_add]; omega, (edge_at (h := h) (q := p) hr).2.2.1, beq_eq_false_iff_ne]
      omega
    · rw [e1] at he
      have hr0 : r ≠ w - 1 := by simpa using he
      show edge w h (w * q + r + 1) 3 = false
      rw [show w * q + r + 1 = w * q + (r + 1) by omega, (edge_at (h := h) (q := q) (show r + 1 < w by omega)).2.2.2, beq_eq_false_iff_ne]
      omega
    · show edge w h (w * q + r + w) 0 = false
      rw [show w * q + r + w = w * (q + 1) + r by rw [Nat.mul_add]; omega, (edge_at (h := h) (q := q + 1) hr).1, beq_eq_false_iff_ne]
      omega
    · rw [e3] at he
      have hr0 : r ≠ 0 := by simpa using he
      show edge w h (w * q + r - 1) 1 = false
      rw [show w * q + r - 1 = w * q + (r - 1) by omega, (edge_at (h := h) (q := q) (show r - 1 < w by omega)).2.1, beq_eq_false_iff_ne]
      omega
  · rcases four hv with rfl | rfl | rfl | rfl
    · have := not_edge0 he
      show i - w ≠ i
      omega
    · show i + 1 ≠ i
      omega
    · show i + w ≠ i
      omega
    · have := not_edge3 he
      show i - 1 ≠ i
      omega
theorem sid_eq {w h i j v u : Nat} (hw : 0 < w) (hv : v < 4) (hu : u < 4) (he : edge w h i v = false) (hf : edge w h j u = false) : sid w j u = sid w i v ↔ (j = i ∧ u = v) ∨ (j = nbr w i v ∧ u = (v + 2) % 4) := by
  rcases four hv with rfl | rfl | rfl | rfl
  · have := not_edge0 he
    have a : sid w i 0 = 2 * (i - w) + 1 := rfl
    have b : nbr w i 0 = i - w := rfl
    rcases four hu with rfl | rfl | rfl | rfl
    · have := not_edge0 hf; have c : sid w j 0 = 2 * (j - w) + 1 := rfl; omega
    · have c : sid w j 1 = 2 * j := rfl; omega
    · have c : sid w j 2 = 2 * j + 1 := rfl; omega
    · have := not_edge3 hf; have c : sid w j 3 = 2 * (j - 1) := rfl; omega
  · have a : sid w i 1 = 2 * i := rfl
    have b : nbr w i 1 = i + 1 := rfl
    rcases four hu with rfl | rfl | rfl | rfl
    · have := not_edge0 hf; have c : sid w j 0 = 2 * (j - w) + 1 := rfl; omega
    · have c : sid w j 1 = 2 * j := rfl; omega
    · have c : sid w j 2 = 2 * j + 1 := rfl; omega
    · have := not_edge3 hf; have c : sid w j 3 = 2 * (j - 1) := rfl; omega
  · have a : sid w i 2 = 2 * i + 1 := rfl
    have b : nbr w i 2 = i + w := rfl
    rcases four hu with rfl | rfl | rfl | rfl
    · have := not_edge0 hf; have c : sid w j 0 = 2 * (j - w) + 1 := rfl; omega
    · have c : sid w j 1 = 2 * j := rfl; omega
    · have c : sid w j 2 = 2 * j + 1 := rfl; omega
    · have := not_edge3 hf; have c : sid w j 3 = 2 * (j - 1) := rfl; omega
  · have := not_edge3 he
    have a : sid w i 3 = 2 * (i - 1) := rfl
    have b : nbr w i 3 = i - 1 := rfl
    rcases four hu with rfl | rfl | rfl | rfl
    · have := not_edge0 hf; have c : sid w j 0 = 2 * (j - w) + 1 := rfl; omega
    · have c : sid w j 1 = 2 * j := rfl; omega
    · have c : sid w j 2 = 2 * j + 1 := rfl; omega
    · have := not_edge3 hf; have c : sid w j 3 = 2 * (j - 1) := rfl; omega
/-- a plank set, or taken -/
def tog (pb : Nat → Nat) (s : Nat) : Nat → Nat := fun j => if j = s / 2 then pb j ^^^ 2 ^ (s % 2) else pb j
theorem kbit_x : ∀ p, p < 4 → ∀ e, e < 2 → ∀ e', e' < 2 → (kbit (p ^^^ 2 ^ e) e' = if e' = e then !kbit p e' else kbit p e') ∧ p ^^^ 2 ^ e < 4 := by decide +kernel
theorem plk_tog {pb : Nat → Nat} (hp : ∀ j, pb j < 4) (s t : Nat) : plk (tog pb s) t = if t = s then !plk pb t else plk pb t := by
  unfold plk tog
  by_cases c : t / 2 = s / 2
  · rw [if_pos c, (kbit_x (pb (t / 2)) (hp _) (s % 2) (by omega) (t % 2) (by omega)).1]
    by_cases c2 : t % 2 = s % 2
    · rw [if_pos c2, if_pos (by omega)]
    · rw [if_neg c2, if_neg (by omega)]
  · rw [if_neg c, if_neg (by omega)]
theorem tog_lt {pb : Nat → Nat} (hp : ∀ j, pb j < 4) (s j : Nat) : tog pb s j < 4 := by
  unfold tog
  split
  · exact (kbit_x (pb j) (hp j) (s % 2) (by omega) 0 (by omega)).2
  · exact hp j
theorem pcnt_tog {pb : Nat → Nat} (hp : ∀ j, pb j < 4) (s : Nat) : ∀ n, pcnt (tog pb s) n + (if s < n then (if plk pb s then 1 else 0) else 0) = pcnt pb n + (if s < n then (if plk pb s then 0 else 1) else 0)
  | 0 => by rw [if_neg (by omega), if_neg (by omega)]; rfl
  | n + 1 => by
    have ih := pcnt_tog hp s n
    unfold pcnt
    rw [plk_tog hp s n]
    by_cases c : n = s
    · subst c
      simp only [show ¬ n < n by omega, if_false] at ih
      simp only [show n < n + 1 by omega, if_true]
      cases plk pb n <;> simp <;> omega
    · rw [if_neg c]
      by_cases c2 : s < n
      · rw [if_pos c2, if_pos c2] at ih
        rw [if_pos (show s < n + 1 by omega), if_pos (show s < n + 1 by omega)]
        omega
      · rw [if_neg c2, if_neg c2] at ih
        rw [if_neg (show ¬ s < n + 1 by omega), if_neg (show ¬ s < n + 1 by omega)]
        omega
/-- the ways shut by planks, as truth values -/
def pf (w h : Nat) (pb : Nat → Nat) (j u : Nat) : Bool := !edge w h j u && plk pb (sid w j u)
def B4 (f : Nat → Bool) : Nat := (((0 + if f 0 then 2 ^ 0 else 0) + if f 1 then 2 ^ 1 else 0) + if f 2 then 2 ^ 2 else 0) + if f 3 then 2 ^ 3 else 0
theorem pway_B4 (w h : Nat) (pb : Nat → Nat) (j : Nat) : pway w h pb j 4 = B4 (pf w h pb j) := rfl
theorem B4_ext {f f' : Nat → Bool} (h : ∀ u, u < 4 → f u = f' u) : B4 f = B4 f' := by
  unfold B4
  rw [h 0 (by decide), h 1 (by decide), h 2 (by decide), h 3 (by decide)]
theorem B4_dec : ∀ a b c d : Bool, ∀ v, v < 4 → (((((0 + if (if 0 = v then !a else a) then 2 ^ 0 else 0) + if (if 1 = v then !b else b) then 2 ^ 1 else 0) + if (if 2 = v then !c else c) then 2 ^ 2 else 0) + if (if 3 = v then !d else d) then 2 ^ 3 else 0 : Nat) = ((((0 + if a then 2 ^ 0 else 0) + if b then 2 ^ 1 else 0) + if c then 2 ^ 2 else 0) + if d then 2 ^ 3 else 0) ^^^ 2 ^ v) := by decide +kernel
theorem B4_tog {f f' : Nat → Bool} {v : Nat} (hv : v < 4) (h : ∀ u, u < 4 → f' u = if u = v then !f u else f u) : B4 f' = B4 f ^^^ 2 ^ v := by
  unfold B4
  rw [h 0 (by decide), h 1 (by decide), h 2 (by decide), h 3 (by decide)]
  exact B4_dec _ _ _ _ v hv
theorem B4_lt (f : Nat → Bool) : B4 f < 16 := by
  unfold B4
  cases f 0 <;> cases f 1 <;> cases f 2 <;> cases f 3 <;> decide
theorem B4_bit (f : Nat → Bool) {v : Nat} (hv : v < 4) : B4 f / 2 ^ v % 2 = if f v then 1 else 0 := by
  unfold B4
  rcases four hv with rfl | rfl | rfl | rfl <;> cases f 0 <;> cases f 1 <;> cases f 2 <;> cases f 3 <;> decide
theorem pf_tog {w h i v : Nat} {pb : Nat → Nat} (hp : ∀ j, pb j < 4) (hi : i < w * h) (hv : v < 4) (he : edge w h i v = false) {j u : Nat} (hu : u < 4) : pf w h (tog pb (sid w i v)) j u = if (j = i ∧ u = v) ∨ (j = nbr w i v ∧ u = (v + 2) % 4) then !pf w h pb j u else pf w h pb j u := by
  unfold pf
  rw [plk_tog hp]
  obtain ⟨n1, n2, n3⟩ := edge_nbr hi hv he
  cases hf : edge w h j u with
  | true =>
    have : ¬ ((j = i ∧ u = v) ∨ (j = nbr w i v ∧ u = (v + 2) % 4)) := by
      rintro (⟨rfl, rfl⟩ | ⟨rfl, rfl⟩)
      · rw [he] at hf; cases hf
      · rw [n1] at hf; cases hf
    rw [if_neg this]
    rfl
  | false =>
    have := sid_eq (pos_of hi) hv hu he hf
    by_cases c : (j = i ∧ u = v) ∨ (j = nbr w i v ∧ u = (v + 2) % 4)
    · rw [if_pos c, if_pos (this.mpr c)]; simp
    · rw [if_neg c, if_neg (fun q => c (this.mp q))]
theorem pway_tog {w h i v : Nat} {pb : Nat → Nat} (hp : ∀ j, pb j < 4) (hi : i < w * h) (hv : v < 4) (he : edge w h i v = false) (j : Nat) : pway w h (tog pb (sid w i v)) j 4 = if j = i then pway w h pb j 4 ^^^ 2 ^ v else if j = nbr w i v then pway w h pb j 4 ^^^ 2 ^ ((v + 2) % 4) else pway w h pb j 4 := by
  obtain ⟨n1, n2, n3⟩ := edge_nbr hi hv he
  rw [pway_B4, pway_B4]
  by_cases c : j = i
  · rw [if_pos c]
    refine B4_tog hv (fun u hu => ?_)
    rw [pf_tog hp hi hv he hu]
    by_cases cu : u = v
    · rw [if_pos (Or.inl ⟨c, cu⟩), if_pos cu]
    · rw [if_neg cu, if_neg]
      rintro (⟨-, q⟩ | ⟨q, -⟩)
      · exact cu q
      · exact n2 (by rw [← q, c])
  · rw [if_neg c]
    by_cases c2 : j = nbr w i v
    · rw [if_pos c2]
      refine B4_tog (by omega) (fun u hu => ?_)
      rw [pf_tog hp hi hv he hu]
      by_cases cu : u = (v + 2) % 4
      · rw [if_pos (Or.inr ⟨c2, cu⟩), if_pos cu]
      · rw [if_neg cu, if_neg]
        rintro (⟨q, -⟩ | ⟨-, q⟩)
        · exact c q
        · exact cu q
    · rw [if_neg c2]
      refine B4_ext (fun u hu => ?_)
      rw [pf_tog hp hi hv he hu, if_neg]
      rintro (⟨q, -⟩ | ⟨q, -⟩)
      · exact c q
      · exact c2 q
theorem xor20 {l p e : Nat} (hl : l < 1048576) : (l + 1048576 * p) ^^^ 2 ^ (20 + e) = l + 1048576 * (p ^^^ 2 ^ e) := by
  have h1 : ((l + 1048576 * p) ^^^ 2 ^ (20 + e)) % 2 ^ 20 = (l + 1048576 * p) % 2 ^ 20 ^^^ 2 ^ (20 + e) % 2 ^ 20 := Nat.xor_mod_two_pow
  have h2 : ((l + 1048576 * p) ^^^ 2 ^ (20 + e)) / 2 ^ 20 = (l + 1048576 * p) / 2 ^ 20 ^^^ 2 ^ (20 + e) / 2 ^ 20 := Nat.xor_div_two_pow
  rw [show (l + 1048576 * p) % 2 ^ 20 = l by omega, Nat.pow_add, Nat.mul_mod_right, Nat.xor_zero] at h1
  rw [show (l + 1048576 * p) / 2 ^ 20 = p by omega, Nat.pow_add, Nat.mul_div_cancel_left _ (by decide)] at h2
  rw [Nat.pow_add]
  generalize (l + 1048576 * p) ^^^ 2 ^ 20 * 2 ^ e = z at *
  generalize p ^^^ 2 ^ e = y at *
  omega

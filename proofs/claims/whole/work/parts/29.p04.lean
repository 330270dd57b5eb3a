/-! pure: a whole roll, in the reference -/
theorem and_nI (a b : Nat) : nI a &&& nI b = nI (a &&& b) := by
  apply Int32.toBitVec_inj.1
  show BitVec.ofNat 32 a &&& BitVec.ofNat 32 b = BitVec.ofNat 32 (a &&& b)
  apply BitVec.eq_of_getLsbD_eq
  intro i hi
  simp [hi]
theorem or_nI (a b : Nat) : nI a ||| nI b = nI (a ||| b) := by
  apply Int32.toBitVec_inj.1
  show BitVec.ofNat 32 a ||| BitVec.ofNat 32 b = BitVec.ofNat 32 (a ||| b)
  apply BitVec.eq_of_getLsbD_eq
  intro i hi
  simp [hi]
theorem xor_nI (a b : Nat) : nI a ^^^ nI b = nI (a ^^^ b) := by
  apply Int32.toBitVec_inj.1
  show BitVec.ofNat 32 a ^^^ BitVec.ofNat 32 b = BitVec.ofNat 32 (a ^^^ b)
  apply BitVec.eq_of_getLsbD_eq
  intro i hi
  simp [hi]
theorem shl1_nI {k : Nat} (hk : k < 31) : i_shl 1 (nI k) = nI (2 ^ k) := by
  have h : 2 ^ k < 2 ^ 31 := Nat.pow_lt_pow_right (by decide) hk
  rw [li1, shl_nI (by omega) (by omega), Nat.one_mul]
/-- where a coin ends, whether it fell, how many steps, by which cells -/
def rolA (sh : Nat → Nat → Bool) (hg gr : Nat → Nat) (w size fo : Nat) : Nat → Nat → Nat → Nat → Nat → Nat × Bool × Nat × Nat
  | 0, i, _, st, pa => (i, false, st, pa)
  | f + 1, i, came, st, pa => if size ≤ gr i then (i, true, st, pa) else if wayA sh hg w fo came i = 4 then (i, false, st, pa) else rolA sh hg gr w size fo f (nbr w i (wayA sh hg w fo came i)) (wayA sh hg w fo came i) (st + 1) (pa ||| 2 ^ nbr w i (wayA sh hg w fo came i))
theorem wst_low {sh : Nat → Nat → Bool} {hg : Nat → Nat} {w i came : Nat} {q : Nat × Nat} {v : Nat} (hq : q.1 ≠ 4 → sh i q.1 = false ∧ q.1 < 4 ∧ hg (nbr w i q.1) = q.2 ∧ q.2 < hg i) (h2 : q.2 ≤ hg i) (hv : v < 4) : (wst sh hg w i came q v).1 ≠ 4 → sh i (wst sh hg w i came q v).1 = false ∧ (wst sh hg w i came q v).1 < 4 ∧ hg (nbr w i (wst sh hg w i came q v).1) = (wst sh hg w i came q v).2 ∧ (wst sh hg w i came q v).2 < hg i := by
  unfold wst
  cases hs : sh i v with
  | true => rw [if_pos rfl]; exact hq
  | false =>
    rw [if_neg (by decide)]
    split
    · rename_i h
      intro _
      refine ⟨hs, hv, rfl, ?_⟩
      show hg _ < hg i
      rcases h with h | ⟨h, h3, -⟩
      · omega
      · have := (hq h3).2.2.2
        omega
    · exact hq
theorem wayK_low {sh : Nat → Nat → Bool} {hg : Nat → Nat} {w fo came i : Nat} : ∀ k, k ≤ 4 → ((wayK sh hg w fo came i k).1 ≠ 4 → sh i (wayK sh hg w fo came i k).1 = false ∧ (wayK sh hg w fo came i k).1 < 4 ∧ hg (nbr w i (wayK sh hg w fo came i k).1) = (wayK sh hg w fo came i k).2 ∧ (wayK sh hg w fo came i k).2 < hg i)
  | 0, _ => fun h => absurd rfl h
  | k + 1, hk => wst_low (wayK_low k (by omega)) (wayK_le k (by omega)).2 (ord_lt (by omega))
/-- a way that is gone is open and leads down -/
theorem wayA_low {sh : Nat → Nat → Bool} {hg : Nat → Nat} {w fo came i : Nat} (h : wayA sh hg w fo came i ≠ 4) : sh i (wayA sh hg w fo came i) = false ∧ wayA sh hg w fo came i < 4 ∧ hg (nbr w i (wayA sh hg w fo came i)) < hg i := by
  obtain ⟨h1, h2, h3, h4⟩ := wayK_low 4 (by decide) h
  exact ⟨h1, h2, by unfold wayA; omega⟩
/-- more fuel changes nothing -/
theorem rolA_fuel {sh : Nat → Nat → Bool} {hg gr : Nat → Nat} {w size fo : Nat} : ∀ (f g i came st pa : Nat), hg i < f → hg i < g → rolA sh hg gr w size fo f i came st pa = rolA sh hg gr w size fo g i came st pa
  | 0, _, _, _, _, _, h, _ => absurd h (Nat.not_lt_zero _)
  | _ + 1, 0, _, _, _, _, _, h => absurd h (Nat.not_lt_zero _)
  | f + 1, g + 1, i, came, st, pa, h1, h2 => by
    unfold rolA
    split
    · rfl
    · split
      · rfl
      · rename_i h3
        have := (wayA_low h3).2.2
        exact rolA_fuel f g _ _ _ _ (by omega) (by omega)
/-- the reference's state with other answers of a roll -/
def m3 (τ : St) (a b c : Int32) : St := fun i j => if i = 0 ∧ j = 32 then a else if i = 0 ∧ j = 33 then b else if i = 0 ∧ j = 34 then c else τ i j
theorem m3_32 {τ : St} {a b c x : Int32} : s_up (m3 τ a b c) 0 32 x = m3 τ x b c := by
  funext i j; simp only [s_up, m3]; split <;> split <;> simp_all
theorem m3_33 {τ : St} {a b c x : Int32} : s_up (m3 τ a b c) 0 33 x = m3 τ a x c := by
  funext i j; simp only [s_up, m3]; by_cases h : i = 0 <;> by_cases h2 : j = 33 <;> by_cases h3 : j = 32 <;> simp_all
theorem m3_34 {τ : St} {a b c x : Int32} : s_up (m3 τ a b c) 0 34 x = m3 τ a b x := by
  funext i j; simp only [s_up, m3]; by_cases h : i = 0 <;> by_cases h2 : j = 34 <;> by_cases h3 : j = 32 <;> by_cases h4 : j = 33 <;> simp_all
theorem m3_self (τ : St) : m3 τ (τ 0 32) (τ 0 33) (τ 0 34) = τ := by
  funext i j; simp only [m3]; by_cases h : i = 0 <;> by_cases h2 : j = 34 <;> by_cases h3 : j = 32 <;> by_cases h4 : j = 33 <;> simp_all
theorem m3_m3 {τ : St} {a b c x y z : Int32} : m3 (m3 τ a b c) x y z = m3 τ x y z := by
  funext i j; simp only [m3]; by_cases h : i = 0 <;> by_cases h2 : j = 34 <;> by_cases h3 : j = 32 <;> by_cases h4 : j = 33 <;> simp_all
theorem m3_o {τ : St} {a b c : Int32} {i j : Nat} (h : i ≠ 0 ∨ (j ≠ 32 ∧ j ≠ 33 ∧ j ≠ 34)) : m3 τ a b c i j = τ i j := by
  unfold m3
  rw [if_neg (by omega), if_neg (by omega), if_neg (by omega)]
/-- all that a roll reads in the reference -/
def MG (τ : St) (w h kE kS : Nat) (li pb : Nat → Nat) (t1 t2 : Nat) (hg gr : Nat → Nat) : Prop := MC τ w h kE kS ∧ MP τ li pb ∧ (τ 0 30 = tr t1 ∧ τ 0 31 = tr t2 ∧ t1 ≤ 99 ∧ t2 ≤ 99) ∧ (∀ i, i < 30 → τ 1 (1 + i) = nI (hg i) ∧ hg i ≤ 9) ∧ (∀ i, i < 30 → τ 5 i = nI (gr i) ∧ gr i ≤ 9)
theorem nbr_lt {w h i v : Nat} (w1 : 0 < w) (hi : i < w * h) (hv : v < 4) (he : edge w h i v = false) : nbr w i v < w * h := by
  rcases four hv with rfl | rfl | rfl | rfl
  · simp only [nbr, if_true]; omega
  · simp +decide only [edge, nbr, if_true, if_false, beq_eq_false_iff_ne, ne_eq] at he ⊢
    have h1 := Nat.div_add_mod i w
    have h2 := Nat.mod_lt i w1
    have h3 := div_lt_of hi
    have h4 : w * (i / w) + w ≤ w * h := by
      have : w * (i / w + 1) ≤ w * h := Nat.mul_le_mul_left w h3
      rw [Nat.mul_add, Nat.mul_one] at this
      exact this
    omega
  · simp +decide only [edge, nbr, if_true, if_false, beq_eq_false_iff_ne, ne_eq] at he ⊢
    have h1 := Nat.div_add_mod i w
    have h2 := Nat.mod_lt i w1
    have h3 := div_lt_of hi
    have h4 : w * (i / w) + w + w ≤ w * h := by
      have h6 : i / w + 2 ≤ h := by
        clear h1
        generalize i / w = q at he h3
        omega
      have : w * (i / w + 2) ≤ w * h := Nat.mul_le_mul_left w h6
      rw [Nat.mul_add] at this
      omega
    omega
  · simp +decide only [nbr, if_false]; omega
section
variable {τ : St} {w h kE kS t1 t2 : Nat} {li pb hg gr : Nat → Nat}
theorem MG.m3 (M : MG τ w h kE kS li pb t1 t2 hg gr) (a b c : Int32) : MG (m3 τ a b c) w h kE kS li pb t1 t2 hg gr := by
  obtain ⟨⟨c1, c2, c3, c4, c5⟩, p, ⟨q1, q2, q3⟩, g1, g2⟩ := M
  refine ⟨⟨?_, ?_, ?_, ?_, c5⟩, fun i hi => ?_, ⟨?_, ?_, q3⟩, fun i hi => ?_, fun i hi => ?_⟩
  · rw [m3_o (by omega)]; exact c1
  · rw [m3_o (by omega)]; exact c2
  · rw [m3_o (by omega)]; exact c3
  · rw [m3_o (by omega)]; exact c4
  · rw [m3_o (by omega)]; exact p i hi
  · rw [m3_o (by omega)]; exact q1
  · rw [m3_o (by omega)]; exact q2
  · rw [m3_o (by omega)]; exact g1 i hi
  · rw [m3_o (by omega)]; exact g2 i hi
theorem MG.R (M : MG τ w h kE kS li pb t1 t2 hg gr) : MR τ w (w * h) (shutA w h kE kS pb t1 t2) hg := by
  obtain ⟨C, p, ⟨q1, q2, q3, q4⟩, g1, g2⟩ := M
  have h30 := C.n30
  refine ⟨h30, fun i v hi hv => m_isShut C p q1 q2 q3 q4 hi hv, fun i v hi hv hs => ?_, fun i hi => g1 i (by omega)⟩
  have he : edge w h i v = false := by
    unfold shutA at hs
    cases h : edge w h i v with
    | true => rw [h] at hs; cases hs
    | false => rfl
  exact ⟨m_beside C hi hv he, nbr_lt C.2.2.2.2.1 hi hv he⟩
/-- what the reference keeps of an end -/
def enc (r : Nat × Bool × Nat × Nat) : Int32 := nI (r.1 + (if r.2.1 then 100 else 0))
theorem m_roll_loop (M : MG τ w h kE kS li pb t1 t2 hg gr) {size fo : Nat} (hz : size ≤ 9) (hf : fo ≤ 1) : ∀ (f m i came st pa : Nat) (a : Int32), hg i < f → i < w * h → came ≤ 4 → mX12_roll_38 mX12_roll_122 (m + f) (nI size) (nI fo) (nI i) (e9 came) (z1 (decide (size ≤ gr i))) (m3 τ a (nI st) (nI pa)) = some (0, m3 τ (enc (rolA (shutA w h kE kS pb t1 t2) hg gr w size fo f i came st pa)) (nI (rolA (shutA w h kE kS pb t1 t2) hg gr w size fo f i came st pa).2.2.1) (nI (rolA (shutA w h kE kS pb t1 t2) hg gr w size fo f i came st pa).2.2.2)) := by
  intro f
  induction f with
  | zero => intro m i came st pa a h1; exact absurd h1 (Nat.not_lt_zero _)
  | succ f ih =>
    intro m i came st pa a h1 hi hc
    have h30 := M.1.n30
    have M3 := M.m3 a (nI st) (nI pa)
    rw [show m + (f + 1) = (m + f) + 1 from rfl, mX12_roll_38]
    unfold rolA
    by_cases c1 : size ≤ gr i
    · rw [decide_eq_true c1, if_neg (by decide), if_pos c1]
      unfold mX12_roll_122
      rw [lt_t, show (100 : Int32) = nI 100 from rfl, nI_add, m3_32]
      rfl
    · rw [decide_eq_false c1, if_pos z1_f, if_neg c1, m_wayFrom M3.R hi hc hf, bd_t]
      by_cases c2 : wayA (shutA w h kE kS pb t1 t2) hg w fo came i = 4
      · rw [if_pos (by rw [c2]; rfl), if_pos c2, lt_t, m3_32]
        rfl
      · obtain ⟨l1, l2, l3⟩ := wayA_low c2
        rw [if_neg (by rw [e9_eq (by omega)]; exact c2), if_neg c2]
        generalize wayA (shutA w h kE kS pb t1 t2) hg w fo came i = v at l1 l2 l3 ⊢
        obtain ⟨b1, b2⟩ := M3.R.2.2.1 i v hi l2 l1
        rw [e9_lt l2, b1, bd_t, lt_t, m3_33, lt_t, m3_34]
        have e33 : m3 τ a (nI st) (nI pa) 0 33 + 1 = nI (st + 1) := by
          show nI st + 1 = nI (st + 1)
          rw [li1, nI_add]
        rw [e33]
        have e34 : m3 τ a (nI (st + 1)) (nI pa) 0 34 ||| i_shl 1 (nI (nbr w i v)) = nI (pa ||| 2 ^ nbr w i v) := by
          show nI pa ||| i_shl 1 (nI (nbr w i v)) = _
          rw [shl1_nI (by omega), or_nI]
        rw [e34, gd_t (ib_nI (by omega) (by decide)), nx_nI (by omega)]
        obtain ⟨g1, g2⟩ := (M.m3 a (nI (st + 1)) (nI (pa ||| 2 ^ nbr w i v))).2.2.2.2 (nbr w i v) (by omega)
        have ihh := ih m (nbr w i v) v (st + 1) (pa ||| 2 ^ nbr w i v) a (by omega) b2 (by omega)
        rw [g1]
        unfold mX12_roll_117
        rw [e9_lt l2] at ihh
        by_cases c3 : size ≤ gr (nbr w i v)
        · rw [if_neg (nI_nlt c3 (by omega))]
          rw [decide_eq_true c3] at ihh
          exact ihh
        · rw [if_pos (nI_lt (by omega) (by omega))]
          rw [decide_eq_false c3] at ihh
          exact ihh
/-- THE REFERENCE'S ROLL -/
theorem m_roll (M : MG τ w h kE kS li pb t1 t2 hg gr) {size fo i : Nat} (hz : size ≤ 9) (hf : fo ≤ 1) (hi : i < w * h) : mX12_roll (nI size) (nI fo) (nI i) τ = some (0, m3 τ (enc (rolA (shutA w h kE kS pb t1 t2) hg gr w size fo 10 i 4 0 (2 ^ i))) (nI (rolA (shutA w h kE kS pb t1 t2) hg gr w size fo 10 i 4 0 (2 ^ i)).2.2.1) (nI (rolA (shutA w h kE kS pb t1 t2) hg gr w size fo 10 i 4 0 (2 ^ i)).2.2.2)) := by
  have h30 := M.1.n30
  obtain ⟨g1, g2⟩ := M.2.2.2.2 i (by omega)
  obtain ⟨q1, q2⟩ := M.2.2.2.1 i (by omega)
  have l := m_roll_loop M hz hf 10 19990 i 4 0 (2 ^ i) (τ 0 32) (by omega) hi (by decide)
  unfold mX12_roll
  have e0 : s_up τ 0 33 0 = m3 τ (τ 0 32) (nI 0) (τ 0 34) := by
    have := m3_33 (τ := τ) (a := τ 0 32) (b := τ 0 33) (c := τ 0 34) (x := nI 0)
    rw [m3_self] at this
    exact this
  rw [lt_t, e0, lt_t, m3_34, shl1_nI (by omega), gd_t (ib_nI (by omega) (by decide)), nx_nI (by omega)]
  rw [m3_o (by omega), g1]
  unfold mX12_roll_36
  by_cases c3 : size ≤ gr i
  · rw [if_neg (nI_nlt c3 (by omega))]
    rw [decide_eq_true c3] at l
    exact l
  · rw [if_pos (nI_lt (by omega) (by omega))]
    rw [decide_eq_false c3] at l
    exact l
end

/-! pure: the whole roll of the class; the sides that it crosses -/
/-- the sides that a coin crosses, in order -/
def rolC (sh : Nat → Nat → Bool) (hg gr : Nat → Nat) (w size fo : Nat) : Nat → Nat → Nat → List Nat
  | 0, _, _ => []
  | f + 1, i, came => if size ≤ gr i then [] else if wayA sh hg w fo came i = 4 then [] else sid w i (wayA sh hg w fo came i) :: rolC sh hg gr w size fo f (nbr w i (wayA sh hg w fo came i)) (wayA sh hg w fo came i)
theorem rolC_fuel {sh : Nat → Nat → Bool} {hg gr : Nat → Nat} {w size fo : Nat} : ∀ (f g i came : Nat), hg i < f → hg i < g → rolC sh hg gr w size fo f i came = rolC sh hg gr w size fo g i came
  | 0, _, _, _, h, _ => absurd h (Nat.not_lt_zero _)
  | _ + 1, 0, _, _, _, h => absurd h (Nat.not_lt_zero _)
  | f + 1, g + 1, i, came, h1, h2 => by
    unfold rolC
    split
    · rfl
    · split
      · rfl
      · rename_i h3
        have := (wayA_low h3).2.2
        rw [rolC_fuel f g _ _ (by omega) (by omega)]
/-- a list is written into a row from place k on -/
def wrl (cr : Nat → Int32) (k : Nat) (l : List Nat) : Nat → Int32 := fun j => if k ≤ j ∧ j < k + l.length then nI (l.getD (j - k) 0) else cr j
theorem wrl_nil (cr : Nat → Int32) (k : Nat) : wrl cr k [] = cr := by
  funext j; unfold wrl; rw [if_neg (by simp only [List.length_nil]; omega)]
theorem wrl_cons (cr : Nat → Int32) (k x : Nat) (l : List Nat) : wrl (upd cr k (nI x)) (k + 1) l = wrl cr k (x :: l) := by
  funext j
  unfold wrl upd
  by_cases h : j = k
  · subst h
    rw [if_neg (by omega), if_pos rfl, if_pos ⟨Nat.le_refl _, by simp⟩, Nat.sub_self]
    rfl
  · rw [if_neg h]
    by_cases h2 : k + 1 ≤ j ∧ j < k + 1 + l.length
    · rw [if_pos h2, if_pos (by simp; omega)]
      have e : j - k = (j - (k + 1)) + 1 := by omega
      rw [e]
      rfl
    · rw [if_neg h2, if_neg (by simp; omega)]
theorem rolA_steps {sh : Nat → Nat → Bool} {hg gr : Nat → Nat} {w size fo : Nat} : ∀ (f i came st pa : Nat), (rolA sh hg gr w size fo f i came st pa).2.2.1 = st + (rolC sh hg gr w size fo f i came).length
  | 0, _, _, _, _ => rfl
  | f + 1, i, came, st, pa => by
    unfold rolA rolC
    split
    · rfl
    · split
      · rfl
      · rw [rolA_steps f, List.length_cons]; omega
section
variable {σ : St} {w n : Nat} {sh : Nat → Nat → Bool} {hg gr : Nat → Nat}
theorem s_sideOf (R : SR σ w n sh hg gr) {i v : Nat} (hi : i < n) (hv : v < 4) (hs : sh i v = false) : mX8_sideOf (nI i) (nI v) σ = some (nI (sid w i v), σ) := by
  obtain ⟨n30, r1, r2, r3, r4, r5, r6⟩ := R
  obtain ⟨-, -, b3, b4⟩ := r2 i v hi hv hs
  unfold mX8_sideOf
  simp only [r5, li0, li1, li2]
  rcases four hv with rfl | rfl | rfl | rfl
  · have := b3 rfl
    simp +decide (disch := omega) only [nI_inj, sid, if_true, if_false, sub_nI, pk_mul, nI_add]
  · simp +decide (disch := omega) only [nI_inj, sid, if_true, if_false, nI_add, pk_mul]
  · simp +decide (disch := omega) only [nI_inj, sid, if_true, if_false, nI_add, pk_mul]
  · have := b4 rfl
    simp +decide (disch := omega) only [nI_inj, sid, if_true, if_false, sub_nI, pk_mul]
theorem s_go_loop (R : SR σ w n sh hg gr) {r size fo : Nat} (hr : 59 ≤ r) (hz : size ≤ 9) (hf : fo ≤ 1) : ∀ (f m i came st pa : Nat) (cr : Nat → Int32), hg i < f → hg i + st ≤ 9 → i < n → came ≤ 4 → mX8_go_30 r (m + f) (nI size) (nI fo) (e1 came) (nI st) (g5 σ r (nI i) 0 (nI st) (nI pa) cr) = some (0, g5 σ r (nI (rolA sh hg gr w size fo f i came st pa).1) (z1 (rolA sh hg gr w size fo f i came st pa).2.1) (nI (rolA sh hg gr w size fo f i came st pa).2.2.1) (nI (rolA sh hg gr w size fo f i came st pa).2.2.2) (wrl cr st (rolC sh hg gr w size fo f i came))) := by
  intro f
  induction f with
  | zero => intro m i came st pa cr h1; exact absurd h1 (Nat.not_lt_zero _)
  | succ f ih =>
    intro m i came st pa cr h1 h9 hi hc
    have R5 := R.g5 hr (nI i) 0 (nI st) (nI pa) cr
    obtain ⟨n30, -, r2, -, r4, r5, r6⟩ := R5
    obtain ⟨g1, g2⟩ := r4 i hi
    have R5 := R.g5 hr (nI i) 0 (nI st) (nI pa) cr
    rw [show m + (f + 1) = (m + f) + 1 from rfl, mX8_go_30]
    have e9' : (9 : Int32) = nI 9 := id rfl
    rw [e9', if_neg (nI_nlt (by omega) (by omega)), g5_r0, gd_t (ib_nI (by omega) (by decide)), nx_nI (by omega), g1]
    unfold rolA rolC
    by_cases c1 : size ≤ gr i
    · rw [if_neg (nI_nlt c1 (by omega)), if_pos c1, if_pos c1, lt_t, g5_1, wrl_nil]
      rfl
    · rw [if_pos (nI_lt (by omega) (by omega)), if_neg c1, if_neg c1, s_wayDown R5 g5_r0 hi hc hf, bd_t]
      by_cases c2 : wayA sh hg w fo came i = 4
      · rw [if_pos (by rw [c2]; rfl), if_pos c2, if_pos c2, wrl_nil]
        rfl
      · obtain ⟨l1, l2, l3⟩ := wayA_low c2
        rw [if_neg (by rw [e1_eq (by omega)]; exact c2), if_neg c2, if_neg c2]
        generalize wayA sh hg w fo came i = v at l1 l2 l3 ⊢
        obtain ⟨b1, b2, -, -⟩ := r2 i v hi l2 l1
        rw [g5_r0, e1_lt l2, s_sideOf R5 hi l2 l1, bd_t, g5_r2, gd_t (ib_nI (by omega) (by decide)), nx_nI (by omega), lt_t, g5_c, lt_t, g5_r2, li1, nI_add, g5_2]
        unfold mX2_besideOf
        rw [g5_r0, li4, pk_mul, nI_add, gd_t (ib_nI (by omega) (by decide)), nx_nI (by omega), bd_t, g5_o (by omega) (by omega)]
        rw [g5_o (by omega) (by omega)] at b1
        rw [b1, lt_t, g5_0, lt_t, g5_r3, g5_r0, ← li1, shl1_nI (by omega), or_nI, g5_3, lt_t]
        have ihh := ih m (nbr w i v) v (st + 1) (pa ||| 2 ^ nbr w i v) (upd cr st (nI (sid w i v))) (by omega) (by omega) b2 (by omega)
        rw [e1_lt l2] at ihh
        rw [ihh, wrl_cons]
/-- THE CLASS'S ROLL -/
theorem s_go (R : SR σ w n sh hg gr) {r size fo i : Nat} (hr : 59 ≤ r) (hz : size ≤ 9) (hf : fo ≤ 1) (hi : i < n) : mX8_go r (nI size) (nI fo) (nI i) σ = some (0, g5 σ r (nI (rolA sh hg gr w size fo 10 i 4 0 (2 ^ i)).1) (z1 (rolA sh hg gr w size fo 10 i 4 0 (2 ^ i)).2.1) (nI (rolA sh hg gr w size fo 10 i 4 0 (2 ^ i)).2.2.1) (nI (rolA sh hg gr w size fo 10 i 4 0 (2 ^ i)).2.2.2) (wrl (σ (r + 1)) 0 (rolC sh hg gr w size fo 10 i 4))) := by
  have h30 := R.1
  have hh := R.2.2.2.1 i hi
  have l := s_go_loop R hr hz hf 10 19990 i 4 0 (2 ^ i) (σ (r + 1)) (by omega) (by omega) hi (by decide)
  unfold mX8_go
  have e0 : s_up σ r 0 (nI i) = g5 σ r (nI i) (σ r 1) (σ r 2) (σ r 3) (σ (r + 1)) := by
    have := g5_0 (σ := σ) (r := r) (a := σ r 0) (b := σ r 1) (c := σ r 2) (d := σ r 3) (cr := σ (r + 1)) (x := nI i)
    rw [g5_self] at this
    exact this
  rw [lt_t, e0, lt_t, g5_1, lt_t, g5_2, lt_t, g5_3, shl1_nI (by omega)]
  exact l
end

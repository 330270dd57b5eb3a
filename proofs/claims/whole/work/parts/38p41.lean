/-! pure: the city that is being read: its cells, its kerbs -/
def kf (w h kE kS j u : Nat) : Bool := edge w h j u || kerb kE kS (sid w j u)
theorem kway_B4 (w h kE kS j : Nat) : kway w h kE kS j 4 = B4 (kf w h kE kS j) := rfl
theorem B4_or_dec : ∀ a b c d : Bool, ∀ v, v < 4 → (((((0 + if (a || 0 == v) then 2 ^ 0 else 0) + if (b || 1 == v) then 2 ^ 1 else 0) + if (c || 2 == v) then 2 ^ 2 else 0) + if (d || 3 == v) then 2 ^ 3 else 0 : Nat) = ((((0 + if a then 2 ^ 0 else 0) + if b then 2 ^ 1 else 0) + if c then 2 ^ 2 else 0) + if d then 2 ^ 3 else 0) ||| 2 ^ v) := by decide +kernel
theorem B4_or {f f' : Nat → Bool} {v : Nat} (hv : v < 4) (h : ∀ u, u < 4 → f' u = (f u || u == v)) : B4 f ||| 2 ^ v = B4 f' := by
  unfold B4
  rw [h 0 (by decide), h 1 (by decide), h 2 (by decide), h 3 (by decide)]
  exact (B4_or_dec _ _ _ _ v hv).symm
theorem kerb00 (s : Nat) : kerb 0 0 s = false := by unfold kerb kbit; split <;> simp
theorem kbit_or (m i k : Nat) : kbit (m ||| 2 ^ i) k = (kbit m k || k == i) := by
  have e : ∀ z k, kbit z k = z.testBit k := by
    intro z k
    unfold kbit
    rw [Nat.testBit_eq_decide_div_mod_eq]
    by_cases c : z / 2 ^ k % 2 = 1
    · rw [c]; rfl
    · rw [beq_eq_false_iff_ne.mpr c, decide_eq_false c]
  rw [e, e, Nat.testBit_or, Nat.testBit_two_pow]
  congr 1
  by_cases c : i = k
  · subst c; simp
  · rw [decide_eq_false c, beq_eq_false_iff_ne.mpr (fun q => c q.symm)]
/-- a kerb more -/
def sE (kE s : Nat) : Nat := if s % 2 = 0 then kE ||| 2 ^ (s / 2) else kE
def sS (kS s : Nat) : Nat := if s % 2 = 0 then kS else kS ||| 2 ^ (s / 2)
theorem kerb_set (kE kS s t : Nat) : kerb (sE kE s) (sS kS s) t = (kerb kE kS t || t == s) := by
  unfold kerb sE sS
  by_cases c : s % 2 = 0
  · rw [if_pos c, if_pos c]
    by_cases d : t % 2 = 0
    · rw [if_pos d, if_pos d, kbit_or]
      congr 1
      by_cases q : t / 2 = s / 2
      · rw [beq_iff_eq.mpr q, beq_iff_eq.mpr (show t = s by omega)]
      · rw [beq_eq_false_iff_ne.mpr q, beq_eq_false_iff_ne.mpr (show t ≠ s by omega)]
    · rw [if_neg d, if_neg d, beq_eq_false_iff_ne.mpr (show t ≠ s by omega), Bool.or_false]
  · rw [if_neg c, if_neg c]
    by_cases d : t % 2 = 0
    · rw [if_pos d, if_pos d, beq_eq_false_iff_ne.mpr (show t ≠ s by omega), Bool.or_false]
    · rw [if_neg d, if_neg d, kbit_or]
      congr 1
      by_cases q : t / 2 = s / 2
      · rw [beq_iff_eq.mpr q, beq_iff_eq.mpr (show t = s by omega)]
      · rw [beq_eq_false_iff_ne.mpr q, beq_eq_false_iff_ne.mpr (show t ≠ s by omega)]
theorem kf_set {w h i v kE kS : Nat} (hi : i < w * h) (hv : v < 4) (he : edge w h i v = false) (j : Nat) {u : Nat} (hu : u < 4) : kf w h (sE kE (sid w i v)) (sS kS (sid w i v)) j u = (kf w h kE kS j u || decide ((j = i ∧ u = v) ∨ (j = nbr w i v ∧ u = (v + 2) % 4))) := by
  unfold kf
  rw [kerb_set]
  cases hf : edge w h j u with
  | true => rfl
  | false =>
    have := sid_eq (pos_of hi) hv hu he hf
    rw [Bool.false_or, Bool.false_or]
    congr 1
    by_cases q : sid w j u = sid w i v
    · rw [beq_iff_eq.mpr q, decide_eq_true (this.mp q)]
    · rw [beq_eq_false_iff_ne.mpr q, decide_eq_false (fun z => q (this.mpr z))]
/-- an edge's side is the side of no way that leads on -/
theorem edge_sid {w h i j v u : Nat} (hi : i < w * h) (hj : j < w * h) (hv : v = 1 ∨ v = 2) (hu : u < 4) (he : edge w h i v = true) (hf : edge w h j u = false) : sid w j u ≠ sid w i v := by
  have hw := pos_of hi
  intro e
  rcases hv with rfl | rfl
  · have a : sid w i 1 = 2 * i := rfl
    rcases four hu with rfl | rfl | rfl | rfl
    · have c : sid w j 0 = 2 * (j - w) + 1 := rfl; omega
    · have c : sid w j 1 = 2 * j := rfl
      rw [show j = i by omega, he] at hf
      cases hf
    · have c : sid w j 2 = 2 * j + 1 := rfl; omega
    · have := not_edge3 hf
      have c : sid w j 3 = 2 * (j - 1) := rfl
      have ej : j = i + 1 := by omega
      have h1 := (edge_nbr hj (by decide) hf).1
      have : nbr w j 3 = i := by show j - 1 = i; omega
      rw [this] at h1
      rw [show (3 + 2) % 4 = 1 from rfl, he] at h1
      cases h1
  · have a : sid w i 2 = 2 * i + 1 := rfl
    rcases four hu with rfl | rfl | rfl | rfl
    · have := not_edge0 hf
      have c : sid w j 0 = 2 * (j - w) + 1 := rfl
      have h1 := (edge_nbr hj (by decide) hf).1
      have : nbr w j 0 = i := by show j - w = i; omega
      rw [this] at h1
      rw [show (0 + 2) % 4 = 2 from rfl, he] at h1
      cases h1
    · have c : sid w j 1 = 2 * j := rfl; omega
    · have c : sid w j 2 = 2 * j + 1 := rfl
      rw [show j = i by omega, he] at hf
      cases hf
    · have c : sid w j 3 = 2 * (j - 1) := rfl; omega
theorem kf_edge {w h i v kE kS : Nat} (hi : i < w * h) (hv : v = 1 ∨ v = 2) (he : edge w h i v = true) {j u : Nat} (hj : j < w * h) (hu : u < 4) : kf w h (sE kE (sid w i v)) (sS kS (sid w i v)) j u = kf w h kE kS j u := by
  unfold kf
  rw [kerb_set]
  cases hf : edge w h j u with
  | true => rfl
  | false => rw [beq_eq_false_iff_ne.mpr (edge_sid hi hj hv hu he hf), Bool.or_false]
theorem sE_lt {kE s : Nat} (h : kE < 2 ^ 30) (hs : s < 60) : sE kE s < 2 ^ 30 := by
  unfold sE
  split
  · exact Nat.or_lt_two_pow h (Nat.pow_lt_pow_right (by decide) (by omega))
  · exact h
theorem sS_lt {kS s : Nat} (h : kS < 2 ^ 30) (hs : s < 60) : sS kS s < 2 ^ 30 := by
  unfold sS
  split
  · exact h
  · exact Nat.or_lt_two_pow h (Nat.pow_lt_pow_right (by decide) (by omega))
section
variable {σ τ σ' τ' : St} {w h : Nat}
/-- one of a cell's four neighbours is noted -/
theorem s_nb {i v m : Nat} {r : Int32} {ed : Bool} (hi : i < 30) (hv : v < 4) (hr : (r = -1) = (ed = true)) (h20 : σ 20 i = nI m) : ∃ σ', mX2_noteBeside 18 (nI i) (nI v) r σ = some (0, σ') ∧ σ' 22 (4 * i + v) = r ∧ σ' 20 i = nI (m ||| if ed then 2 ^ v else 0) ∧ ∀ a b, ¬ (a = 22 ∧ b = 4 * i + v) → ¬ (a = 20 ∧ b = i) → σ' a b = σ a b := by
  unfold mX2_noteBeside
  rw [li4, pk_mul, nI_add, gd_t (ib_nI (by omega) (by decide)), nx_nI (by omega), lt_t]
  simp only [hr]
  have G : ∀ {α : Type} (o : Option α), gd (ib (nI i) 30) o = o := fun o => gd_t (ib_nI hi (by decide)) o
  cases ed with
  | false =>
    rw [if_neg Bool.false_ne_true, if_neg Bool.false_ne_true, Nat.or_zero]
    exact ⟨_, rfl, su_s, by rw [su_o (by omega)]; exact h20, fun a b h1 _ => su_o (by omega)⟩
  | true =>
    rw [if_pos rfl, if_pos rfl, G, G, nx_nI (by omega), show (18 + 2 : Nat) = 20 from rfl, show (18 + 4 : Nat) = 22 from rfl, su_o (by omega), h20, shl1_nI (by omega), or_nI, lt_t]
    exact ⟨_, rfl, by rw [su_o (by omega), su_s], su_s, fun a b h1 h2 => by rw [su_o (by omega), su_o (by omega)]⟩
theorem B4_b4 (f : Nat → Bool) : (((0 ||| if f 0 then 2 ^ 0 else 0) ||| if f 1 then 2 ^ 1 else 0) ||| if f 2 then 2 ^ 2 else 0) ||| (if f 3 then 2 ^ 3 else 0) = B4 f := by
  unfold B4
  cases f 0 <;> cases f 1 <;> cases f 2 <;> cases f 3 <;> decide
theorem kway00 (w h j : Nat) : kway w h 0 0 j 4 = B4 (edge w h j) := by
  rw [kway_B4]
  refine B4_ext (fun u _ => ?_)
  unfold kf
  rw [kerb00, Bool.or_false]
/-- a cell is laid: its neighbours and its edges -/
def LD (σ : St) (w h i : Nat) : Prop := σ 20 i = nI (kway w h 0 0 i 4) ∧ ∀ v, v < 4 → σ 22 (4 * i + v) = if edge w h i v then -1 else nI (nbr w i v)
theorem s_cell4 {x y : Nat} (hx : x < w) (hy : y < h) (w6 : w ≤ 6) (h5 : h ≤ 5) (hW : σ 18 0 = nI w) (hH : σ 18 1 = nI h) (h20 : σ 20 (w * y + x) = nI 0) {kk : Int32 → St → Option (Int32 × St)} {N : Nat} : ∃ σ', mX2_stretch_30 18 kk (N + 1) (nI y) (nI x) σ = mX2_stretch_30 18 kk N (nI y) (nI (x + 1)) σ' ∧ LD σ' w h (w * y + x) ∧ ∀ a b, ¬ (a = 22 ∧ 4 * (w * y + x) ≤ b ∧ b < 4 * (w * y + x) + 4) → ¬ (a = 20 ∧ b = w * y + x) → σ' a b = σ a b := by
  obtain ⟨e0, e1, e2, e3⟩ := edge_at (h := h) (q := y) hx
  have hi : w * y + x < w * h := cell_lt hx hy
  have h30 : w * h ≤ 30 := Nat.mul_le_mul w6 h5
  obtain ⟨i, hi'⟩ : ∃ i, i = w * y + x := ⟨_, rfl⟩
  rw [← hi'] at e0 e1 e2 e3 hi h20 ⊢
  have cA : ∀ σ' : St, σ' 18 0 = nI w → σ' 18 1 = nI h → ∀ (a b : Int32) (t : Int32), ((∃ p q, p < w ∧ q < h ∧ a = nI p ∧ b = nI q ∧ t = nI (w * q + p)) ∨ ((¬ ((∃ p, p < w ∧ a = nI p) ∧ ∃ q, q < h ∧ b = nI q)) ∧ t = -1)) → mX2_cellAt 18 a b σ' = some (t, σ') := by
    intro σ' hW hH a b t ht
    rcases ht with ⟨p, q, h1, h2, rfl, rfl, rfl⟩ | ⟨h1, rfl⟩
    · exact s_cellAt_t hW hH w6 h5 h1 h2
    · exact s_cellAt_f hW hH w6 h5 h1
  have no1 : ∀ m : Nat, m ≤ 6 → ¬ ∃ q, q < m ∧ (-1 : Int32) = nI q := by
    rintro m hm ⟨q, hq, e⟩
    exact nI_m1 (show q < 2 ^ 31 by omega) e.symm
  have no2 : ∀ m z : Nat, m ≤ 6 → m ≤ z → z ≤ 6 → ¬ ∃ q, q < m ∧ nI z = nI q := by
    rintro m z hm hz hz2 ⟨q, hq, e⟩
    rw [nI_inj (by omega) (by omega)] at e
    omega
  obtain ⟨t, ht⟩ : ∃ t : Nat → Int32, t = fun v => if edge w h i v then -1 else nI (nbr w i v) := ⟨_, rfl⟩
  have tr : ∀ v, v < 4 → (t v = -1) = (edge w h i v = true) := by
    intro v hv
    rw [ht]
    show ((if edge w h i v = true then (-1 : Int32) else nI (nbr w i v)) = -1) = _
    cases he : edge w h i v with
    | true => simp
    | false =>
      have := nbr_lt (pos_of hi) hi hv he
      simp only [Bool.false_eq_true, if_false]
      exact propext ⟨fun q => absurd q (nI_m1 (by omega)), fun q => by cases q⟩
  have c0 : ∀ σ' : St, σ' 18 0 = nI w → σ' 18 1 = nI h → mX2_cellAt 18 (nI x) (nI y - 1) σ' = some (t 0, σ') := by
    intro σ' a1 a2
    refine cA σ' a1 a2 _ _ _ ?_
    rw [ht]
    show _ ∨ (_ ∧ (if edge w h i 0 = true then (-1 : Int32) else nI (nbr w i 0)) = -1)
    by_cases q : y = 0
    · subst q
      have : edge w h i 0 = true := by rw [e0]; rfl
      rw [this]
      exact Or.inr ⟨fun z => no1 h (by omega) z.2, rfl⟩
    · have : edge w h i 0 = false := by rw [e0]; exact beq_eq_false_iff_ne.mpr q
      obtain ⟨z, rfl⟩ : ∃ z, y = z + 1 := ⟨y - 1, by omega⟩
      refine Or.inl ⟨x, z, hx, by omega, rfl, by rw [li1, sub_nI (by omega), Nat.add_sub_cancel], ?_⟩
      show (if edge w h i 0 = true then (-1 : Int32) else nI (nbr w i 0)) = _
      rw [this, if_neg Bool.false_ne_true]
      show nI (i - w) = _
      rw [hi', Nat.mul_add]
      congr 1
      omega
  have c1 : ∀ σ' : St, σ' 18 0 = nI w → σ' 18 1 = nI h → mX2_cellAt 18 (nI x + 1) (nI y) σ' = some (t 1, σ') := by
    intro σ' a1 a2
    refine cA σ' a1 a2 _ _ _ ?_
    rw [ht]
    show _ ∨ (_ ∧ (if edge w h i 1 = true then (-1 : Int32) else nI (nbr w i 1)) = -1)
    by_cases q : x = w - 1
    · have : edge w h i 1 = true := by rw [e1]; exact beq_iff_eq.mpr q
      rw [this]
      exact Or.inr ⟨fun z => no2 w (x + 1) w6 (by omega) (by omega) (by rw [li1, nI_add] at z; exact z.1), rfl⟩
    · have : edge w h i 1 = false := by rw [e1]; exact beq_eq_false_iff_ne.mpr q
      refine Or.inl ⟨x + 1, y, by omega, hy, by rw [li1, nI_add], rfl, ?_⟩
      show (if edge w h i 1 = true then (-1 : Int32) else nI (nbr w i 1)) = _
      rw [this, if_neg Bool.false_ne_true]
      show nI (i + 1) = _
      rw [hi']
      rfl
  have c2 : ∀ σ' : St, σ' 18 0 = nI w → σ' 18 1 = nI h → mX2_cellAt 18 (nI x) (nI y + 1) σ' = some (t 2, σ') := by
    intro σ' a1 a2
    refine cA σ' a1 a2 _ _ _ ?_
    rw [ht]
    show _ ∨ (_ ∧ (if edge w h i 2 = true then (-1 : Int32) else nI (nbr w i 2)) = -1)
    by_cases q : y = h - 1
    · have : edge w h i 2 = true := by rw [e2]; exact beq_iff_eq.mpr q
      rw [this]
      exact Or.inr ⟨fun z => no2 h (y + 1) (by omega) (by omega) (by omega) (by rw [li1, nI_add] at z; exact z.2), rfl⟩
    · have : edge w h i 2 = false := by rw [e2]; exact beq_eq_false_iff_ne.mpr q
      refine Or.inl ⟨x, y + 1, hx, by omega, rfl, by rw [li1, nI_add], ?_⟩
      show (if edge w h i 2 = true then (-1 : Int32) else nI (nbr w i 2)) = _
      rw [this, if_neg Bool.false_ne_true]
      show nI (i + w) = _
      rw [hi', Nat.mul_add]
      congr 1
      omega
  have c3 : ∀ σ' : St, σ' 18 0 = nI w → σ' 18 1 = nI h → mX2_cellAt 18 (nI x - 1) (nI y) σ' = some (t 3, σ') := by
    intro σ' a1 a2
    refine cA σ' a1 a2 _ _ _ ?_
    rw [ht]
    show _ ∨ (_ ∧ (if edge w h i 3 = true then (-1 : Int32) else nI (nbr w i 3)) = -1)
    by_cases q : x = 0
    · subst q
      have : edge w h i 3 = true := by rw [e3]; rfl
      rw [this]
      exact Or.inr ⟨fun z => no1 w w6 z.1, rfl⟩
    · have : edge w h i 3 = false := by rw [e3]; exact beq_eq_false_iff_ne.mpr q
      refine Or.inl ⟨x - 1, y, by omega, hy, by rw [li1, sub_nI (by omega)], rfl, ?_⟩
      show (if edge w h i 3 = true then (-1 : Int32) else nI (nbr w i 3)) = _
      rw [this, if_neg Bool.false_ne_true]
      show nI (i - 1) = _
      rw [hi']
      congr 1
      omega
  have cc : ∀ σ' : St, σ' 18 0 = nI w → σ' 18 1 = nI h → mX2_cellAt 18 (nI x) (nI y) σ' = some (nI i, σ') := fun σ' a1 a2 => by rw [hi']; exact s_cellAt_t a1 a2 w6 h5 hx hy
  obtain ⟨σ1, n1, n2, n3, n4⟩ := s_nb (v := 0) (show i < 30 by omega) (by decide) (tr 0 (by decide)) h20
  obtain ⟨σ2, p1, p2, p3, p4⟩ := s_nb (v := 1) (show i < 30 by omega) (by decide) (tr 1 (by decide)) n3
  obtain ⟨σ3, q1, q2, q3, q4⟩ := s_nb (v := 2) (show i < 30 by omega) (by decide) (tr 2 (by decide)) p3
  obtain ⟨σ4, r1, r2, r3, r4⟩ := s_nb (v := 3) (show i < 30 by omega) (by decide) (tr 3 (by decide)) q3
  refine ⟨σ4, ?_, ⟨?_, fun v hv => ?_⟩, fun a b h1 h2 => ?_⟩
  · have W1 : σ1 18 0 = nI w ∧ σ1 18 1 = nI h := ⟨by rw [n4 18 0 (by omega) (by omega)]; exact hW, by rw [n4 18 1 (by omega) (by omega)]; exact hH⟩
    have W2 : σ2 18 0 = nI w ∧ σ2 18 1 = nI h := ⟨by rw [p4 18 0 (by omega) (by omega)]; exact W1.1, by rw [p4 18 1 (by omega) (by omega)]; exact W1.2⟩
    have W3 : σ3 18 0 = nI w ∧ σ3 18 1 = nI h := ⟨by rw [q4 18 0 (by omega) (by omega)]; exact W2.1, by rw [q4 18 1 (by omega) (by omega)]; exact W2.2⟩
    have n1' : mX2_noteBeside 18 (nI i) 0 (t 0) σ = some (0, σ1) := n1
    have p1' : mX2_noteBeside 18 (nI i) 1 (t 1) σ1 = some (0, σ2) := p1
    have q1' : mX2_noteBeside 18 (nI i) 2 (t 2) σ2 = some (0, σ3) := q1
    have r1' : mX2_noteBeside 18 (nI i) 3 (t 3) σ3 = some (0, σ4) := r1
    rw [mX2_stretch_30, hW, if_pos (nI_lt hx (by omega)), cc σ hW hH, bd_t, c0 σ hW hH, bd_t, n1', bd_t, c1 σ1 W1.1 W1.2, bd_t, p1', bd_t, c2 σ2 W2.1 W2.2, bd_t, q1', bd_t, c3 σ3 W3.1 W3.2, bd_t, r1', bd_t, lt_t, li1, nI_add]
  · rw [r3, kway00, ← B4_b4]
  · have : t v = if edge w h i v then -1 else nI (nbr w i v) := by rw [ht]
    rw [← this]
    rcases four hv with rfl | rfl | rfl | rfl
    · rw [r4 _ _ (by omega) (by omega), q4 _ _ (by omega) (by omega), p4 _ _ (by omega) (by omega)]; exact n2
    · rw [r4 _ _ (by omega) (by omega), q4 _ _ (by omega) (by omega)]; exact p2
    · rw [r4 _ _ (by omega) (by omega)]; exact q2
    · exact r2
  · rw [r4 _ _ (by omega) (by omega), q4 _ _ (by omega) (by omega), p4 _ _ (by omega) (by omega), n4 _ _ (by omega) (by omega)]
theorem s_row30 {kk : Int32 → St → Option (Int32 × St)} {y : Nat} (hy : y < h) (w6 : w ≤ 6) (h5 : h ≤ 5) : ∀ (m N x : Nat) (σ : St), σ 18 0 = nI w → σ 18 1 = nI h → x + m = w → (∀ i, i < w * y + x → LD σ w h i) → (∀ i, w * y + x ≤ i → i < w * h → σ 20 i = nI 0) → ∃ σ', mX2_stretch_30 18 kk (N + m + 1) (nI y) (nI x) σ = kk (nI y) σ' ∧ (∀ i, i < w * (y + 1) → LD σ' w h i) ∧ (∀ i, w * (y + 1) ≤ i → i < w * h → σ' 20 i = nI 0) ∧ ∀ a b, a ≠ 20 → a ≠ 22 → σ' a b = σ a b
  | 0, N, x, σ, hW, hH, e, L, Z => by
    have : w * (y + 1) = w * y + x := by rw [Nat.mul_add]; omega
    refine ⟨σ, ?_, fun i hi => L i (by omega), fun i h1 h2 => Z i (by omega) h2, fun _ _ _ _ => rfl⟩
    rw [show N + 0 + 1 = N + 1 from rfl, mX2_stretch_30, hW, if_neg (nI_nlt (by omega) (by omega))]
  | m + 1, N, x, σ, hW, hH, e, L, Z => by
    have hi := cell_lt (w := w) (h := h) (show x < w by omega) hy
    obtain ⟨σ1, a1, a2, a3⟩ := s_cell4 (kk := kk) (N := N + m + 1) (show x < w by omega) hy w6 h5 hW hH (Z _ (Nat.le_refl _) hi)
    obtain ⟨σ2, b1, b2, b3, b4⟩ := s_row30 (kk := kk) hy w6 h5 m N (x + 1) σ1 (by rw [a3 18 0 (by omega) (by omega)]; exact hW) (by rw [a3 18 1 (by omega) (by omega)]; exact hH) (by omega) (fun i hi => by
      rcases (show i = w * y + x ∨ i < w * y + x by omega) with q | q
      · rw [q]; exact a2
      · obtain ⟨l1, l2⟩ := L i q
        refine ⟨by rw [a3 20 i (by omega) (by omega)]; exact l1, fun v hv => by rw [a3 22 _ (by omega) (by omega)]; exact l2 v hv⟩) (fun i h1 h2 => by rw [a3 20 i (by omega) (by omega)]; exact Z i (by omega) h2)
    refine ⟨σ2, ?_, b2, b3, fun a b h1 h2 => by rw [b4 a b h1 h2, a3 a b (by omega) (by omega)]⟩
    rw [show N + (m + 1) + 1 = (N + m + 1) + 1 from rfl, a1]
    exact b1
theorem s_str19 (w6 : w ≤ 6) (h5 : h ≤ 5) : ∀ (m N y : Nat) (σ : St), σ 18 0 = nI w → σ 18 1 = nI h → y + m = h → (∀ i, i < w * y → LD σ w h i) → (∀ i, w * y ≤ i → i < w * h → σ 20 i = nI 0) → ∃ σ', mX2_stretch_19 18 (N + m + 1) (nI y) σ = some (0, σ') ∧ (∀ i, i < w * h → LD σ' w h i) ∧ ∀ a b, a ≠ 20 → a ≠ 22 → σ' a b = σ a b
  | 0, N, y, σ, hW, hH, e, L, Z => by
    have : y = h := by omega
    subst this
    refine ⟨σ, ?_, L, fun _ _ _ _ => rfl⟩
    rw [show N + 0 + 1 = N + 1 from rfl, mX2_stretch_19, hH, if_neg (nI_nlt (by omega) (by omega))]
  | m + 1, N, y, σ, hW, hH, e, L, Z => by
    obtain ⟨σ1, a1, a2, a3, a4⟩ := s_row30 (kk := mX2_stretch_118 18 (mX2_stretch_19 18 (N + m + 1))) (show y < h by omega) w6 h5 w (19999 - w) 0 σ hW hH (by omega) (fun i hi => L i (by omega)) (fun i h1 h2 => Z i (by omega) h2)
    rw [show 19999 - w + w + 1 = FU by unfold FU; omega] at a1
    obtain ⟨σ2, b1, b2, b3⟩ := s_str19 w6 h5 m N (y + 1) σ1 (by rw [a4 18 0 (by omega) (by omega)]; exact hW) (by rw [a4 18 1 (by omega) (by omega)]; exact hH) (by omega) a2 a3
    refine ⟨σ2, ?_, b2, fun a b h1 h2 => by rw [b3 a b h1 h2, a4 a b h1 h2]⟩
    rw [show N + (m + 1) + 1 = (N + m + 1) + 1 from rfl, mX2_stretch_19, hH, if_pos (nI_lt (by omega) (by omega)), show (0 : Int32) = nI 0 from rfl, a1]
    unfold mX2_stretch_118
    rw [lt_t, li1, nI_add]
    exact b1
theorem s_stretch (w6 : w ≤ 6) (h5 : h ≤ 5) (Z : ∀ i, i < 30 → σ 20 i = nI 0) : ∃ σ', mX2_stretch 18 (nI w) (nI h) σ = some (0, σ') ∧ σ' 18 0 = nI w ∧ σ' 18 1 = nI h ∧ σ' 18 2 = nI (w * h) ∧ (∀ i, i < w * h → LD σ' w h i) ∧ ∀ a b, a ≠ 20 → a ≠ 22 → ¬ (a = 18 ∧ b ≤ 2) → σ' a b = σ a b := by
  have h30 : w * h ≤ 30 := Nat.mul_le_mul w6 h5
  obtain ⟨σ1, hσ1⟩ : ∃ σ1, σ1 = s_up (s_up (s_up σ 18 0 (nI w)) 18 1 (nI h)) 18 2 (nI (w * h)) := ⟨_, rfl⟩
  have f1 : ∀ a b, ¬ (a = 18 ∧ b ≤ 2) → σ1 a b = σ a b := fun a b hab => by rw [hσ1, su_o (by omega), su_o (by omega), su_o (by omega)]
  have g0 : σ1 18 0 = nI w := by rw [hσ1, su_o (by omega), su_o (by omega), su_s]
  have g1 : σ1 18 1 = nI h := by rw [hσ1, su_o (by omega), su_s]
  have g2 : σ1 18 2 = nI (w * h) := by rw [hσ1, su_s]
  obtain ⟨σ2, a1, a2, a3⟩ := s_str19 w6 h5 h (19999 - h) 0 σ1 g0 g1 (by omega) (fun i hi => absurd hi (by rw [Nat.mul_zero]; exact Nat.not_lt_zero i)) (fun i _ h2 => by rw [f1 20 i (by omega)]; exact Z i (by omega))
  rw [show 19999 - h + h + 1 = FU by unfold FU; omega] at a1
  refine ⟨σ2, ?_, by rw [a3 18 0 (by omega) (by omega)]; exact g0, by rw [a3 18 1 (by omega) (by omega)]; exact g1, by rw [a3 18 2 (by omega) (by omega)]; exact g2, a2, fun a b h1 h2 h3 => by rw [a3 a b h1 h2, f1 a b h3]⟩
  unfold mX2_stretch
  rw [lt_t, lt_t, lt_t, pk_mul, ← hσ1]
  exact a1
/-- a kerb is added, in the class -/
theorem s_addKerb {kE kS i v : Nat} (hi : i < w * h) (h30 : w * h ≤ 30) (hv : v < 4) (hK : ∀ j, j < w * h → σ 20 j = nI (kway w h kE kS j 4)) (hB : ∀ j, j < w * h → ∀ u, u < 4 → σ 22 (4 * j + u) = if edge w h j u then -1 else nI (nbr w j u)) : ∃ σ', mX2_addKerb 18 (nI i) (nI v) σ = some (0, σ') ∧ (∀ j, j < w * h → σ' 20 j = nI (if edge w h i v then kway w h kE kS j 4 else kway w h (sE kE (sid w i v)) (sS kS (sid w i v)) j 4)) ∧ ∀ a b, a ≠ 20 → σ' a b = σ a b := by
  have G : ∀ {α : Type} (o : Option α), gd (ib (nI i) 30) o = o := fun o => gd_t (ib_nI (show i < 30 by omega) (by decide)) o
  have kl : ∀ j, kway w h kE kS j 4 < 16 := fun j => by rw [kway_B4]; exact B4_lt _
  unfold mX2_addKerb mX2_besideOf
  rw [G, G]
  simp only [show (18 + 2 : Nat) = 20 from rfl, show (18 + 4 : Nat) = 22 from rfl, nx_nI (show i < 2 ^ 31 by omega), hK i hi, lt_t, shl1_nI (show v < 31 by omega), or_nI]
  rw [li4, pk_mul, nI_add, gd_t (ib_nI (by omega) (by decide)), bd_t, nx_nI (by omega), su_o (by omega), hB i hi v hv]
  cases he : edge w h i v with
  | true =>
    rw [if_pos rfl, if_pos rfl]
    refine ⟨_, rfl, fun j hj => ?_, fun a b ha => su_o (by omega)⟩
    rw [if_pos rfl]
    by_cases c : j = i
    · rw [c, su_s, kway_B4, B4_or hv (f' := kf w h kE kS i) (fun u hu => ?_)]
      by_cases q : u = v
      · rw [q, show kf w h kE kS i v = true by unfold kf; rw [he]; rfl]; rfl
      · rw [beq_eq_false_iff_ne.mpr q, Bool.or_false]
    · rw [su_o (by omega)]; exact hK j hj
  | false =>
    obtain ⟨n1, n2, n3⟩ := edge_nbr hi hv he
    rw [if_neg Bool.false_ne_true, if_neg (nI_m1 (by omega)), gd_t (ib_nI (by omega) (by decide))]
    unfold mX2_facing
    rw [fac v hv, bd_t, gd_t (ib_nI (by omega) (by decide)), nx_nI (by omega), su_o (by omega), hK _ n3, shl1_nI (by omega), or_nI]
    refine ⟨_, rfl, fun j hj => ?_, fun a b ha => by rw [su_o (by omega), su_o (by omega)]⟩
    rw [if_neg Bool.false_ne_true]
    by_cases c : j = nbr w i v
    · rw [c, su_s, kway_B4, kway_B4, B4_or (f' := kf w h (sE kE (sid w i v)) (sS kS (sid w i v)) (nbr w i v)) (by omega) (fun u hu => ?_)]
      rw [kf_set hi hv he _ hu]
      congr 1
      by_cases q : u = (v + 2) % 4
      · rw [beq_iff_eq.mpr q, decide_eq_true (Or.inr ⟨rfl, q⟩)]
      · rw [beq_eq_false_iff_ne.mpr q, decide_eq_false]
        rintro (⟨z, -⟩ | ⟨-, z⟩)
        · exact n2 z
        · exact q z
    · by_cases c2 : j = i
      · rw [c2, su_o (by omega), su_s, kway_B4, kway_B4, B4_or (f' := kf w h (sE kE (sid w i v)) (sS kS (sid w i v)) i) hv (fun u hu => ?_)]
        rw [kf_set hi hv he _ hu]
        congr 1
        by_cases q : u = v
        · rw [beq_iff_eq.mpr q, decide_eq_true (Or.inl ⟨rfl, q⟩)]
        · rw [beq_eq_false_iff_ne.mpr q, decide_eq_false]
          rintro (⟨-, z⟩ | ⟨z, -⟩)
          · exact q z
          · exact n2 z.symm
      · rw [su_o (by omega), su_o (by omega), hK j hj, kway_B4, kway_B4]
        congr 1
        refine B4_ext (fun u hu => ?_)
        rw [kf_set hi hv he _ hu, decide_eq_false, Bool.or_false]
        rintro (⟨z, -⟩ | ⟨z, -⟩)
        · exact c2 z
        · exact c z
end

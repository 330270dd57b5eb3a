/-! pure: mark -/
section
variable {σ τ σ' τ' : St} {w h gn kn kE kS tl sn d t1 t2 n : Nat} {gr sz wo fo tx sk sf st hg li pb : Nat → Nat} {g : Gr} {P : Nat → Gr} {sh : Nat → Nat → Bool}
theorem U_o {v : Int64} {i j : Nat} (q : ¬ (i = 0 ∧ 100 ≤ j)) : s_upl σ 0 v i j = σ i j := by
  unfold s_upl s_row
  by_cases c : i = 0
  · subst c; simp only [if_pos]; rw [if_neg (by omega), if_neg (by omega)]
  · rw [if_neg c]
theorem U_h {v : Int64} : s_upl σ 0 v 0 100 = l_hi v := by simp [s_upl, s_row]
theorem U_l {v : Int64} : s_upl σ 0 v 0 101 = l_lo v := by simp [s_upl, s_row]
theorem U_t {v : Int64} : l_mk (s_upl σ 0 v 0 100) (s_upl σ 0 v 0 101) = v := by rw [U_h, U_l, l_mk_eq]
theorem U_U {v u : Int64} : s_upl (s_upl σ 0 v) 0 u = s_upl σ 0 u := by
  funext i j
  unfold s_upl s_row
  by_cases c : i = 0
  · subst c
    simp only [if_pos]
    by_cases c1 : j = 100 <;> by_cases c2 : j = 101 <;> simp [c1, c2]
  · rw [if_neg c, if_neg c, if_neg c]
theorem IS.fr' (I : IS σ w h gn kn kE kS gr sz wo fo tl tx sn sk sf st) (hs : ∀ i j, ¬ (i = 0 ∧ 100 ≤ j) → σ' i j = σ i j) : IS σ' w h gn kn kE kS gr sz wo fo tl tx sn sk sf st := by
  obtain ⟨a1, a2, a3, a4, a5, a6, a7, a8, a9, a10, a11⟩ := I
  refine ⟨by rw [hs _ _ (by omega)]; exact a1, fun j hj => by rw [hs _ _ (by omega)]; exact a2 j hj, by rw [hs _ _ (by omega)]; exact a3, by rw [hs _ _ (by omega)]; exact a4, by rw [hs _ _ (by omega)]; exact a5, by rw [hs _ _ (by omega)]; exact a6, by rw [hs _ _ (by omega)]; exact a7, by rw [hs _ _ (by omega)]; exact a8, fun i hi => ?_, fun k hk => ?_, fun k hk => ?_⟩
  · obtain ⟨b1, b2, b3⟩ := a9 i hi
    exact ⟨by rw [hs _ _ (by omega)]; exact b1, by rw [hs _ _ (by omega)]; exact b2, fun v hv => by rw [hs _ _ (by omega)]; exact b3 v hv⟩
  · rw [hs _ _ (by omega), hs _ _ (by omega), hs _ _ (by omega)]; exact a10 k hk
  · rw [hs _ _ (by omega), hs _ _ (by omega), hs _ _ (by omega)]; exact a11 k hk
theorem IM.fr' (I : IM τ w h gn kn kE kS gr sz wo fo tl tx sn sk sf st) (ht : ∀ i j, ¬ (i = 0 ∧ 100 ≤ j) → τ' i j = τ i j) : IM τ' w h gn kn kE kS gr sz wo fo tl tx sn sk sf st := by
  obtain ⟨a1, a2, a3, a4, a5, a6, a7, a8, a9, a10, a11, a12, a13, a14⟩ := I
  refine ⟨by rw [ht _ _ (by omega)]; exact a1, fun j hj => by rw [ht _ _ (by omega)]; exact a2 j hj, by rw [ht _ _ (by omega)]; exact a3, by rw [ht _ _ (by omega)]; exact a4, by rw [ht _ _ (by omega)]; exact a5, by rw [ht _ _ (by omega)]; exact a6, by rw [ht _ _ (by omega)]; exact a7, by rw [ht _ _ (by omega)]; exact a8, by rw [ht _ _ (by omega)]; exact a9, fun i hi => by rw [ht _ _ (by omega)]; exact a10 i hi, fun k hk => ?_, by rw [ht _ _ (by omega)]; exact a12, by rw [ht _ _ (by omega)]; exact a13, fun k hk => ?_⟩
  · rw [ht _ _ (by omega), ht _ _ (by omega), ht _ _ (by omega)]; exact a11 k hk
  · rw [ht _ _ (by omega), ht _ _ (by omega), ht _ _ (by omega)]; exact a14 k hk
theorem Inv.tr' (I : Inv σ τ) (v : Int64) : Inv (s_upl σ 0 v) (s_upl τ 0 v) := by
  obtain ⟨w, h, gn, kn, kE, kS, gr, sz, wo, fo, tl, tx, sn, sk, sf, st, g, d, P, cv, im, is, ig, img, t1, t2⟩ := I
  refine ⟨w, h, gn, kn, kE, kS, gr, sz, wo, fo, tl, tx, sn, sk, sf, st, g, d, P, cv, im.fr' (fun i j q => U_o q), is.fr' (fun i j q => U_o q), ig.fr (by omega) (by omega) (fun i j h1 h2 => U_o (by omega)) (fun j => U_o (by omega)), IMG.fr img (fun i j h1 h2 => U_o (by omega)) (fun j => U_o (by omega)) (fun j => U_o (by omega)) (fun j => U_o (by omega)), ?_, ?_⟩
  · rw [U_h, U_h]
  · rw [U_l, U_l]
theorem s_ask1 (X : SX σ w h sh hg gr kn sz fo) {i : Nat} (hi : i < w * h) : mX1_ask (nI i) σ = some (nI (hg i), s_upl σ 0 (l_mk (σ 0 100) (σ 0 101) + 1)) := by
  have h30 := X.1.1
  unfold mX1_ask
  rw [lt_t, gd_t (ib_nI (by omega) (by decide)), nx_nI (by omega), U_o (by omega), (X.hh hi).1]
theorem SX.u (X : SX σ w h sh hg gr kn sz fo) (v : Int64) : SX (s_upl σ 0 v) w h sh hg gr kn sz fo := X.q' (fun i j hi => U_o (by omega))
theorem MX.u (Y : MX τ w h kE kS li pb t1 t2 hg gr kn sz fo) (v : Int64) : MX (s_upl τ 0 v) w h kE kS li pb t1 t2 hg gr kn sz fo := by
  obtain ⟨r, x1, x2, x3, x4, x5, x6, x7⟩ := Y
  refine ⟨fun hw => ?_, by rw [U_o (by omega)]; exact x1, by rw [U_o (by omega)]; exact x2, x3, x4, x5, by rw [U_o (by omega)]; exact x6, fun k hk => by rw [U_o (by omega), U_o (by omega)]; exact x7 k hk⟩
  obtain ⟨⟨c1, c2, c3, c4, c5⟩, p, ⟨q1, q2, q3⟩, g1, g2⟩ := r hw
  refine ⟨⟨?_, ?_, ?_, ?_, c5⟩, fun i hi => ?_, ⟨?_, ?_, q3⟩, fun i hi => ?_, fun i hi => ?_⟩
  · rw [U_o (by omega)]; exact c1
  · rw [U_o (by omega)]; exact c2
  · rw [U_o (by omega)]; exact c3
  · rw [U_o (by omega)]; exact c4
  · rw [U_o (by omega)]; exact p i hi
  · rw [U_o (by omega)]; exact q1
  · rw [U_o (by omega)]; exact q2
  · rw [U_o (by omega)]; exact g1 i hi
  · rw [U_o (by omega)]; exact g2 i hi
theorem m_mcell (Y : MX τ w h kE kS li pb t1 t2 hg gr kn sz fo) {i : Nat} (hi : i < w * h) : mX12_markOfCell (nI i) τ = some (nI (hg i), s_upl τ 0 (l_mk (τ 0 100) (τ 0 101) + 1)) := by
  have h30 := Y.n30
  unfold mX12_markOfCell
  rw [lt_t, li1, nI_add, gd_t (ib_nI (by omega) (by decide)), nx_nI (by omega), U_o (by omega), (Y.hh hi).1]
theorem b4_lt (f : Nat → Bool) : b4 f < 2 ^ 30 := by
  have : ∀ a b c d : Bool, ((if a then 1 else 0) + (if b then 2 else 0) + (if c then 4 else 0) + if d then 8 else 0 : Nat) < 16 := by decide
  unfold b4
  cases f 0 <;> cases f 1 <;> cases f 2 <;> cases f 3 <;> decide
theorem s_ask10 (X : SX σ w h sh hg gr kn sz fo) {i : Nat} (hi : i < w * h) : mX10_ask (nI i) σ = some (nI (hg i) + nI (popc (b4 (sh i)) 30), s_upl σ 0 (l_mk (σ 0 100) (σ 0 101) + 10 + 1)) := by
  unfold mX10_ask
  rw [lt_t, s_ask1 (X.u _) hi, U_t, U_U, bd_t, s_shutWays (X.u _) hi, bd_t, s_bitCount (b4_lt _), bd_t]
theorem s_ask9 (X : SX σ w h sh hg gr kn sz fo) {i : Nat} (hi : i < w * h) : mX9_ask (nI i) σ = some (nI (hg i) - σ 29 i, s_upl σ 0 (l_mk (σ 0 100) (σ 0 101) + 100 + 1)) := by
  have h30 := X.1.1
  unfold mX9_ask
  rw [lt_t, s_ask1 (X.u _) hi, U_t, U_U, bd_t, gd_t (ib_nI (by omega) (by decide)), nx_nI (by omega), U_o (by omega)]
end
theorem wh6 {v : Int32} : (¬ v < 0 ∧ ¬ 5 < v) → (v = 0 ∨ v = 1 ∨ v = 2 ∨ v = 3 ∨ v = 4 ∨ v = 5) := by
  intro q
  obtain ⟨j, hj, rfl⟩ := (nlt_pred (x := v) (w := 6) (by decide)).mp q
  rcases (show j = 0 ∨ j = 1 ∨ j = 2 ∨ j = 3 ∨ j = 4 ∨ j = 5 by omega) with rfl | rfl | rfl | rfl | rfl | rfl
  · exact Or.inl rfl
  · exact Or.inr (Or.inl rfl)
  · exact Or.inr (Or.inr (Or.inl rfl))
  · exact Or.inr (Or.inr (Or.inr (Or.inl rfl)))
  · exact Or.inr (Or.inr (Or.inr (Or.inr (Or.inl rfl))))
  · exact Or.inr (Or.inr (Or.inr (Or.inr (Or.inr rfl))))
theorem lt6 {v : Int32} : v < 6 ↔ ¬ 5 < v := by
  rw [Int32.lt_iff_toInt_lt, Int32.lt_iff_toInt_lt]
  have h1 : (6 : Int32).toInt = 6 := by decide
  have h2 : (5 : Int32).toInt = 5 := by decide
  omega
theorem sm_mark : Sm3 Inv mX11_mark mX12_mark := by
  intro a x y σ τ I
  have I0 := I
  obtain ⟨w, h, gn, kn, kE, kS, gr, sz, wo, fo, tl, tx, sn, sk, sf, st, g, d, P, cv, im, is, ig, img, t1, t2⟩ := I
  have X := SX.of cv is ig.1 ig.2.2.1
  have Y := MX.of cv im ig.2.1 ig.2.2.1
  have h30 := X.1.1
  unfold mX11_mark mX12_mark
  rw [m_in5, bd_t]
  by_cases ca : ¬ a < 0 ∧ ¬ 5 < a
  · rw [decide_eq_true ca, z1_t, if_neg n10]
    rcases CE.or w h x y with ⟨i, ci⟩ | ci
    · have hi := ci.lt
      obtain ⟨s1, s2, s3, s4, s5, s6⟩ := ig.1.2.2.1 i hi
      have r1 := (is.2.2.2.2.2.2.2.2.1 i hi).2.1
      have r2 := im.2.2.2.2.2.2.2.2.2.1 i (by omega)
      have m3' := (ig.2.1.2.1 i (by omega)).2.2.1
      rw [show 0 + 1 + 60 + i = 61 + i by omega] at m3'
      rw [CE.s X ci, bd_t, if_neg ca.1, if_pos (lt6.mpr ca.2), if_neg (nI_m1 (by omega)), CE.m Y ci, bd_t, if_neg n10, CE.mb Y ci, bd_t]
      unfold mX12_markOf
      obtain ⟨t, ht⟩ : ∃ t, t = l_mk (σ 0 100) (σ 0 101) := ⟨_, rfl⟩
      have ht2 : t = l_mk (τ 0 100) (τ 0 101) := by rw [ht, t1, t2]
      rw [← ht2]
      rcases wh6 ca with rfl | rfl | rfl | rfl | rfl | rfl
      · rw [if_pos rfl, if_pos rfl, s_ask1 X hi, bd_t, lt_t, ← ht, li1, nI_add, gd_t (ib_nI (by omega) (by decide)), nx_nI (by omega), U_o (by omega), (Y.hh hi).1, bd_t]
        exact ⟨_, _, _, rfl, rfl, I0.tr' _⟩
      · rw [if_neg (by decide), if_pos rfl, if_neg (by decide), if_pos rfl, s_ask10 X hi, bd_t, lt_t, ← ht, m_mcell (Y.u _) hi, U_t, U_U, bd_t, m_shutWays (Y.u _) hi, bd_t, m_bits (b4_lt _), bd_t, bd_t]
        exact ⟨_, _, _, rfl, rfl, I0.tr' _⟩
      · rw [if_neg (by decide), if_neg (by decide), if_pos rfl, if_neg (by decide), if_neg (by decide), if_pos rfl, s_ask9 X hi, bd_t, lt_t, ← ht, m_mcell (Y.u _) hi, U_t, U_U, bd_t, m_liesOn (Y.u _) hi, bd_t, bd_t, s3]
        exact ⟨_, _, _, rfl, rfl, I0.tr' _⟩
      · rw [if_neg (by decide), if_neg (by decide), if_neg (by decide), if_pos rfl, if_neg (by decide), if_neg (by decide), if_neg (by decide), if_pos rfl]
        unfold mX4_ask
        rw [lt_t, s_ask10 (X.u _) hi, U_t, U_U, bd_t, bd_t, lt_t, ← ht, m_mcell (Y.u _) hi, U_t, U_U, bd_t, m_shutWays (Y.u _) hi, bd_t, m_bits (b4_lt _), bd_t, bd_t, show t + 1000 + 10 + 1 = t + 1010 + 1 by rw [Int64.add_assoc t 1000 10]; rfl]
        exact ⟨_, _, _, rfl, rfl, I0.tr' _⟩
      · rw [if_neg (by decide), if_neg (by decide), if_neg (by decide), if_neg (by decide), if_pos rfl, if_neg (by decide), if_neg (by decide), if_neg (by decide), if_neg (by decide), if_pos rfl]
        unfold mX0_ask
        rw [lt_t, s_ask9 (X.u _) hi, U_t, U_U, bd_t, gd_t (ib_nI (by omega) (by decide)), nx_nI (by omega), U_o (by omega), U_o (by omega), s3, s4, bd_t, lt_t, ← ht, m_mcell (Y.u _) hi, U_t, U_U, bd_t, m_liesOn (Y.u _) hi, bd_t, show (61 : Int32) = nI 61 from rfl, nI_add, gd_t (ib_nI (by omega) (by decide)), nx_nI (by omega), U_o (by omega), m3', bd_t, show t + 10000 + 100 + 1 = t + 10100 + 1 by rw [Int64.add_assoc t 10000 100]; rfl]
        exact ⟨_, _, _, rfl, rfl, I0.tr' _⟩
      · rw [if_neg (by decide), if_neg (by decide), if_neg (by decide), if_neg (by decide), if_neg (by decide), if_pos rfl, if_neg (by decide), if_neg (by decide), if_neg (by decide), if_neg (by decide), if_neg (by decide)]
        unfold mX5_ask
        rw [lt_t, s_ask1 (X.u _) hi, U_t, U_U, bd_t, gd_t (ib_nI (by omega) (by decide))]
        simp only [nx_nI (show i < 2 ^ 31 by omega)]
        rw [U_o (by omega), r1, bd_t, lt_t, ← ht, m_mcell (Y.u _) hi, U_t, U_U, bd_t, gd_t (ib_nI (by omega) (by decide)), U_o (by omega), r2, bd_t]
        exact ⟨_, _, _, rfl, rfl, I0.tr' _⟩
    · rw [CE.s0 X ci, bd_t, if_neg ca.1, if_pos (lt6.mpr ca.2), if_pos rfl, CE.mn Y ci, bd_t, if_pos rfl]
      exact ⟨_, σ, τ, rfl, rfl, I0⟩
  · rw [decide_eq_false ca, z1_f, if_pos rfl]
    refine ⟨-1000000, σ, τ, ?_, rfl, I0⟩
    rcases CE.or w h x y with ⟨i, ci⟩ | ci
    · rw [CE.s X ci, bd_t]
      by_cases c0 : a < 0
      · rw [if_pos c0]
      · rw [if_neg c0, if_neg (fun q => ca ⟨c0, lt6.mp q⟩)]
    · rw [CE.s0 X ci, bd_t]
      by_cases c0 : a < 0
      · rw [if_pos c0]
      · rw [if_neg c0, if_neg (fun q => ca ⟨c0, lt6.mp q⟩)]

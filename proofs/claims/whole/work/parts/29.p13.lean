/-! pure: apart, saw, now -/
theorem pr_inj {w h i j : Nat} (w2 : w ≤ 6) (h2 : h ≤ 5) (hi : i < w * h) (hj : j < w * h) (e : pr w i = pr w j) : i = j := by
  have a1 := div_lt_of hi
  have a2 := div_lt_of hj
  have b1 := Nat.div_add_mod i w
  have b2 := Nat.div_add_mod j w
  unfold pr at e
  have key : ∀ p q a b : Nat, p < 10 → q < 10 → 10 * a + p = 10 * b + q → a = b ∧ p = q := by omega
  obtain ⟨e1, e2⟩ := key _ _ _ _ (Nat.lt_of_lt_of_le a1 (by omega)) (Nat.lt_of_lt_of_le a2 (by omega)) e
  rw [← b1, ← b2, e1, e2]
theorem te_eq {w h : Nat} {r r' : Nat × Bool × Nat × Nat} (w2 : w ≤ 6) (h2 : h ≤ 5) (hi : r.1 < w * h) (hj : r'.1 < w * h) : te w r = te w r' ↔ (r.1 = r'.1 ∧ r.2.1 = r'.2.1) := by
  have l1 := pr_lt w2 h2 hi
  have l2 := pr_lt w2 h2 hj
  unfold te
  constructor
  · intro e
    cases c1 : r.2.1 <;> cases c2 : r'.2.1 <;> simp only [c1, c2, if_true, if_false, Bool.false_eq_true] at e
    · exact ⟨pr_inj w2 h2 hi hj (by omega), rfl⟩
    · omega
    · omega
    · exact ⟨pr_inj w2 h2 hi hj (by omega), rfl⟩
  · rintro ⟨e1, e2⟩
    rw [e1, e2]
theorem enc_eq {r r' : Nat × Bool × Nat × Nat} (hi : r.1 < 100) (hj : r'.1 < 100) : enc r = enc r' ↔ (r.1 = r'.1 ∧ r.2.1 = r'.2.1) := by
  unfold enc
  rw [nI_inj (by split <;> omega) (by split <;> omega)]
  constructor
  · intro e
    cases c1 : r.2.1 <;> cases c2 : r'.2.1 <;> simp only [c1, c2, if_true, if_false, Bool.false_eq_true] at e
    · exact ⟨by omega, rfl⟩
    · omega
    · omega
    · exact ⟨by omega, rfl⟩
  · rintro ⟨e1, e2⟩
    rw [e1, e2]
section
variable {σ τ σ' τ' : St} {w h gn kn kE kS tl sn d t1 t2 n : Nat} {gr sz wo fo tx sk sf st hg li pb : Nat → Nat} {g : Gr} {P : Nat → Gr} {sh : Nat → Nat → Bool}
/-- two kinds end apart -/
def apF (sh : Nat → Nat → Bool) (hg gr : Nat → Nat) (w : Nat) (sz fo : Nat → Nat) (a b i : Nat) : Bool := !(te w (rl sh hg gr w (sz a) (fo a) i) == te w (rl sh hg gr w (sz b) (fo b) i))
theorem te_lt (w2 : w ≤ 6) (h2 : h ≤ 5) {r : Nat × Bool × Nat × Nat} (hi : r.1 < w * h) : te w r < 200 := by
  have := pr_lt w2 h2 hi
  unfold te
  split <;> omega
theorem s_apartBits_loop {a b : Nat} (ha : a < kn) (hb : b < kn) : ∀ (m N i acc : Nat) (σ : St), SX σ w h sh hg gr kn sz fo → i + m = w * h → ∃ σ', mX11_apartBits_5 (N + m + 1) (nI a) (nI b) (nI acc) (nI i) σ = some (nI (orF (apF sh hg gr w sz fo a b) acc i m), σ') ∧ SQu σ σ'
  | 0, N, i, acc, σ, X, e => by
    have h30 := X.1.1
    refine ⟨σ, ?_, SQu.rfl' σ⟩
    rw [show N + 0 + 1 = N + 1 from rfl, mX11_apartBits_5, X.2.2.1, if_neg (nI_nlt (by omega) (by omega))]
    rfl
  | m + 1, N, i, acc, σ, X, e => by
    have h30 := X.1.1
    have w6 := X.1.2.2.2.2.2.2
    have h5 := X.2.2.2.1
    obtain ⟨σ1, e1, q1⟩ := s_endOf X ha (i := i) (by omega)
    obtain ⟨σ2, e2, q2⟩ := s_endOf (X.q q1) hb (i := i) (by omega)
    have l1 := te_lt w6 h5 (X.lt (size := sz a) (f0 := fo a) (i := i) (by omega))
    have l2 := te_lt w6 h5 (X.lt (size := sz b) (f0 := fo b) (i := i) (by omega))
    rw [show N + (m + 1) + 1 = (N + m + 1) + 1 from rfl, mX11_apartBits_5, X.2.2.1, if_pos (nI_lt (by omega) (by omega)), e1, bd_t, e2, bd_t]
    obtain ⟨σ3, e3, q3⟩ := s_apartBits_loop ha hb m N (i + 1) (acc ||| if apF sh hg gr w sz fo a b i = true then 2 ^ i else 0) σ2 ((X.q q1).q q2) (by omega)
    refine ⟨σ3, ?_, (q1.tr q2).tr q3⟩
    unfold mX11_apartBits_41 orF
    simp only [lt_t, nI_inj (show te w (rl sh hg gr w (sz a) (fo a) i) < 2 ^ 31 by omega) (show te w (rl sh hg gr w (sz b) (fo b) i) < 2 ^ 31 by omega)]
    by_cases hc : te w (rl sh hg gr w (sz a) (fo a) i) = te w (rl sh hg gr w (sz b) (fo b) i)
    · have hf : apF sh hg gr w sz fo a b i = false := by unfold apF; rw [beq_iff_eq.mpr hc]; rfl
      rw [hf, if_neg Bool.false_ne_true, Nat.or_zero] at e3
      rw [if_pos hc, li1, nI_add, hf, if_neg Bool.false_ne_true, Nat.or_zero]
      exact e3
    · have hf : apF sh hg gr w sz fo a b i = true := by unfold apF; rw [beq_eq_false_iff_ne.mpr hc]; rfl
      rw [hf, if_pos rfl] at e3
      rw [if_neg hc, shl1_nI (by omega), or_nI, li1, nI_add, hf, if_pos rfl]
      exact e3
theorem s_apartBits (X : SX σ w h sh hg gr kn sz fo) {a b : Nat} (ha : a < kn) (hb : b < kn) : ∃ σ', mX11_apartBits (nI a) (nI b) σ = some (nI (orF (apF sh hg gr w sz fo a b) 0 0 (w * h)), σ') ∧ SQu σ σ' := by
  have h30 := X.1.1
  have L := s_apartBits_loop ha hb (w * h) (19999 - w * h) 0 0 σ X (by omega)
  rw [show 19999 - w * h + w * h + 1 = FU by unfold FU; omega] at L
  exact L
theorem m_apartOf_loop {a b : Nat} (ha : a < kn) (hb : b < kn) : ∀ (m N i acc : Nat) (τ : St), MX τ w h kE kS li pb t1 t2 hg gr kn sz fo → i + m = w * h → ∃ τ', mX12_apartOf_5 (N + m + 1) (nI a) (nI b) (nI acc) (nI i) τ = some (nI (orF (apF (shutA w h kE kS pb t1 t2) hg gr w sz fo a b) acc i m), τ') ∧ MQu τ τ'
  | 0, N, i, acc, τ, Y, e => by
    have h30 := Y.n30
    refine ⟨τ, ?_, MQu.rfl' τ⟩
    rw [show N + 0 + 1 = N + 1 from rfl, mX12_apartOf_5, m_cells Y, bd_t, if_neg (nI_nlt (by omega) (by omega))]
    rfl
  | m + 1, N, i, acc, τ, Y, e => by
    have h30 := Y.n30
    have w6 := Y.2.2.2.1
    have h5 := Y.2.2.2.2.1
    obtain ⟨τ1, e1, f1, -, -, q1⟩ := m_rollKind Y ha (i := i) (by omega)
    obtain ⟨τ2, e2, f2, -, -, q2⟩ := m_rollKind (Y.q q1) hb (i := i) (by omega)
    have l1 := Y.lt (size := sz a) (f0 := fo a) (i := i) (by omega)
    have l2 := Y.lt (size := sz b) (f0 := fo b) (i := i) (by omega)
    rw [show N + (m + 1) + 1 = (N + m + 1) + 1 from rfl, mX12_apartOf_5, m_cells Y, bd_t, if_pos (nI_lt (by omega) (by omega)), e1, bd_t, lt_t, e2, bd_t, f1, f2]
    obtain ⟨τ3, e3, q3⟩ := m_apartOf_loop ha hb m N (i + 1) (acc ||| if apF (shutA w h kE kS pb t1 t2) hg gr w sz fo a b i = true then 2 ^ i else 0) τ2 ((Y.q q1).q q2) (by omega)
    refine ⟨τ3, ?_, (q1.tr q2).tr q3⟩
    unfold mX12_apartOf_52 orF
    have E := enc_eq (r := rl (shutA w h kE kS pb t1 t2) hg gr w (sz a) (fo a) i) (r' := rl (shutA w h kE kS pb t1 t2) hg gr w (sz b) (fo b) i) (by omega) (by omega)
    have T := te_eq w6 h5 l1 l2
    simp only [lt_t]
    by_cases hc : te w (rl (shutA w h kE kS pb t1 t2) hg gr w (sz a) (fo a) i) = te w (rl (shutA w h kE kS pb t1 t2) hg gr w (sz b) (fo b) i)
    · have hf : apF (shutA w h kE kS pb t1 t2) hg gr w sz fo a b i = false := by unfold apF; rw [beq_iff_eq.mpr hc]; rfl
      rw [hf, if_neg Bool.false_ne_true] at e3
      rw [if_pos (E.mpr (T.mp hc)), li0, or_nI, li1, nI_add, hf, if_neg Bool.false_ne_true]
      exact e3
    · have hf : apF (shutA w h kE kS pb t1 t2) hg gr w sz fo a b i = true := by unfold apF; rw [beq_eq_false_iff_ne.mpr hc]; rfl
      rw [hf, if_pos rfl] at e3
      rw [if_neg (fun q => hc (T.mpr (E.mp q))), shl1_nI (by omega), or_nI, li1, nI_add, hf, if_pos rfl]
      exact e3
theorem m_apartOf (Y : MX τ w h kE kS li pb t1 t2 hg gr kn sz fo) {a b : Nat} (ha : a < kn) (hb : b < kn) : ∃ τ', mX12_apartOf (nI a) (nI b) τ = some (nI (orF (apF (shutA w h kE kS pb t1 t2) hg gr w sz fo a b) 0 0 (w * h)), τ') ∧ MQu τ τ' := by
  have h30 := Y.n30
  have L := m_apartOf_loop ha hb (w * h) (19999 - w * h) 0 0 τ Y (by omega)
  rw [show 19999 - w * h + w * h + 1 = FU by unfold FU; omega] at L
  exact L
end
theorem sm_apart : Sm2 Inv mX11_apart mX12_apart := by
  intro a b σ τ I
  have I0 := I
  obtain ⟨w, h, gn, kn, kE, kS, gr, sz, wo, fo, tl, tx, sn, sk, sf, st, g, d, P, cv, im, is, ig, img, t1, t2⟩ := I
  have X := SX.of cv is ig.1 ig.2.2.1
  have Y := MX.of cv im ig.2.1 ig.2.2.1
  unfold mX11_apart mX12_apart
  rcases KIK.or kn a with ⟨k, ck⟩ | ck
  · rw [KIK.m Y ck, KIK.s X ck, bd_t, bd_t, if_neg n10, if_neg n10]
    rcases KIK.or kn b with ⟨k', cl⟩ | cl
    · rw [KIK.m Y cl, KIK.s X cl, bd_t, bd_t, if_neg n10, if_neg n10]
      by_cases c : a = b
      · rw [if_pos c, if_pos c]
        exact ⟨_, σ, τ, rfl, rfl, I0⟩
      · rw [if_neg c, if_neg c, ck.2, cl.2]
        obtain ⟨σ', e, p⟩ := s_apartBits X ck.1 cl.1
        obtain ⟨τ', f, q⟩ := m_apartOf Y ck.1 cl.1
        exact ⟨_, σ', τ', by rw [e, bd_t], by rw [f, bd_t], I0.q p q⟩
    · rw [KIK.mn Y cl, KIK.s0 X cl, bd_t, bd_t, if_pos rfl, if_pos rfl]
      exact ⟨_, σ, τ, rfl, rfl, I0⟩
  · rw [KIK.mn Y ck, KIK.s0 X ck, bd_t, bd_t, if_pos rfl, if_pos rfl]
    exact ⟨_, σ, τ, rfl, rfl, I0⟩
theorem sm_saw : Sm3 Inv mX11_saw mX12_saw := by
  intro a x y σ τ I
  have I0 := I
  obtain ⟨w, h, gn, kn, kE, kS, gr, sz, wo, fo, tl, tx, sn, sk, sf, st, g, d, P, cv, im, is, ig, img, t1, t2⟩ := I
  have X := SX.of cv is ig.1 ig.2.2.1
  have Y := MX.of cv im ig.2.1 ig.2.2.1
  have h30 := X.1.1
  unfold mX11_saw mX12_saw
  rcases KIK.or kn a with ⟨k, ck⟩ | ck
  · rw [KIK.m Y ck, bd_t, if_neg n10]
    rcases PA.or w h x with ⟨i, ci⟩ | ci
    · have hi := ci.2.lt
      rw [PA.s X ci, bd_t, PA.m Y ci, bd_t, if_neg n10]
      rcases PA.or w h y with ⟨j, cj⟩ | cj
      · have hj := cj.2.lt
        rw [PA.s X cj, bd_t, PA.m Y cj, bd_t, if_neg n10, KIK.s X ck, bd_t, if_neg n10, if_neg (nI_m1 (by omega)), if_neg (nI_m1 (by omega)), is.2.2.2.2.2.2.2.1, im.2.2.2.2.2.2.1]
        have s6 : sn ≤ 6 := cv.2.2.2.2.2.2.2.2.2.1
        obtain ⟨hk, rfl⟩ := ck
        have e6 : (6 : Int32) = nI 6 := id rfl
        by_cases c6 : sn = 6
        · subst c6
          rw [e6, if_neg (nI_nlt (Nat.le_refl 6) (by decide)), if_pos rfl]
          exact ⟨_, σ, τ, rfl, rfl, I0⟩
        · have hs6 : sn < 6 := by omega
          rw [e6, if_pos (nI_lt hs6 (by decide)), if_neg (by rw [nI_inj (by omega) (by omega)]; exact c6), gd_t (ib_nI hs6 (by decide)), nx_nI (by omega), li3, pk_mul, gd_t (ib_nI (by omega) (by decide)), nx_nI (by omega)]
          simp only [lt_t]
          have z0 : ∀ p q r, s_up (s_up (s_up σ 4 sn p) 5 sn q) 6 sn r 0 15 = nI sn := fun p q r => by rw [su_o (by omega), su_o (by omega), su_o (by omega)]; exact is.2.2.2.2.2.2.2.1
          have z1' : s_up σ 4 sn (nI k) 0 15 = nI sn := by rw [su_o (by omega)]; exact is.2.2.2.2.2.2.2.1
          have z2 : s_up (s_up σ 4 sn (nI k)) 5 sn (nI i) 0 15 = nI sn := by rw [su_o (by omega)]; exact z1'
          have y1 : s_up τ 10 (3 * sn) (nI k) 0 15 = nI sn := by rw [su_o (by omega)]; exact im.2.2.2.2.2.2.1
          have Y1 : mX12_bitOf x (s_up τ 10 (3 * sn) (nI k)) = some (nI i, s_up τ 10 (3 * sn) (nI k)) := by
            unfold mX12_bitOf mX12_bit
            rw [su_o (by omega), bd_t]
            have := PA.mb Y ci
            unfold mX12_bitOf mX12_bit at this
            rw [bd_t] at this
            have e := congrArg (fun o : Option (Int32 × St) => o.map Prod.fst) this
            simp only [Option.map_some, Option.some.injEq] at e
            rw [e]
          rw [z1', gd_t (ib_nI hs6 (by decide)), nx_nI (by omega), z2, gd_t (ib_nI hs6 (by decide)), nx_nI (by omega), z0, Y1, bd_t, y1, pk_mul, li1, nI_add, nI_add, gd_t (ib_nI (by omega) (by decide)), nx_nI (by omega)]
          have y2 : s_up (s_up τ 10 (3 * sn) (nI k)) 10 (3 * sn + 1) (nI i) 0 15 = nI sn := by rw [su_o (by omega)]; exact y1
          have Y2 : mX12_bitOf y (s_up (s_up τ 10 (3 * sn) (nI k)) 10 (3 * sn + 1) (nI i)) = some (nI j, s_up (s_up τ 10 (3 * sn) (nI k)) 10 (3 * sn + 1) (nI i)) := by
            unfold mX12_bitOf mX12_bit
            rw [su_o (by omega), su_o (by omega), bd_t]
            have := PA.mb Y cj
            unfold mX12_bitOf mX12_bit at this
            rw [bd_t] at this
            have e := congrArg (fun o : Option (Int32 × St) => o.map Prod.fst) this
            simp only [Option.map_some, Option.some.injEq] at e
            rw [e]
          have y3 : s_up (s_up (s_up τ 10 (3 * sn) (nI k)) 10 (3 * sn + 1) (nI i)) 10 (3 * sn + 2) (nI j) 0 15 = nI sn := by rw [su_o (by omega)]; exact y2
          rw [Y2, bd_t, y2, pk_mul, li2, nI_add, gd_t (ib_nI (by omega) (by decide)), nx_nI (by omega), y3, nI_add, su_s, su_s]
          refine ⟨_, _, _, rfl, rfl, ?_⟩
          have hs : ∀ p q, ¬ (4 ≤ p ∧ p ≤ 6) → ¬ (p = 0 ∧ q = 15) → s_up (s_up (s_up (s_up σ 4 sn (nI k)) 5 sn (nI i)) 6 sn (nI j)) 0 15 (nI (sn + 1)) p q = σ p q := fun p q h1 h2 => by rw [su_o (by omega), su_o (by omega), su_o (by omega), su_o (by omega)]
          have ht : ∀ p q, p ≠ 10 → ¬ (p = 0 ∧ q = 15) → s_up (s_up (s_up (s_up τ 10 (3 * sn) (nI k)) 10 (3 * sn + 1) (nI i)) 10 (3 * sn + 2) (nI j)) 0 15 (nI (sn + 1)) p q = τ p q := fun p q h1 h2 => by rw [su_o (by omega), su_o (by omega), su_o (by omega), su_o (by omega)]
          refine ⟨w, h, gn, kn, kE, kS, gr, sz, wo, fo, tl, tx, sn + 1, fun q => if q = sn then k else sk q, fun q => if q = sn then i else sf q, fun q => if q = sn then j else st q, g, d, P, ?_, im.seen ht su_s (fun q hq => ?_), is.seen hs su_s (fun q hq => ?_), ig.fr (by omega) (by omega) (fun p q h1 h2 => hs p q (by omega) (by omega)) (fun q => ht 1 q (by omega) (by omega)), IMG.fr img (fun p q h1 h2 => hs p q (by omega) (by omega)) (fun q => ht 1 q (by omega) (by omega)) (fun q => hs 2 q (by omega) (by omega)) (fun q => ht 2 q (by omega) (by omega)), ?_, ?_⟩
          · obtain ⟨c1, c2, c3, c4, c5, c6, c7, c8, c9, c10, c11⟩ := cv
            refine ⟨c1, c2, c3, c4, c5, c6, c7, c8, c9, by omega, fun q hq => ?_⟩
            show (if q = sn then k else sk q) < kn ∧ (if q = sn then i else sf q) < w * h ∧ (if q = sn then j else st q) < w * h
            by_cases cq : q = sn
            · simp only [if_pos cq]; exact ⟨hk, hi, hj⟩
            · simp only [if_neg cq]; exact c11 q (by omega)
          · show _ = nI (if q = sn then k else sk q) ∧ _ = nI (if q = sn then i else sf q) ∧ _ = nI (if q = sn then j else st q)
            by_cases cq : q = sn
            · subst cq
              simp only [if_pos]
              refine ⟨?_, ?_, ?_⟩
              · rw [su_o (by omega), su_o (by omega), su_o (by omega), su_s]
              · rw [su_o (by omega), su_o (by omega), su_s]
              · rw [su_o (by omega), su_s]
            · simp only [if_neg cq]
              rw [su_o (by omega), su_o (by omega), su_o (by omega), su_o (by omega), su_o (by omega), su_o (by omega), su_o (by omega), su_o (by omega), su_o (by omega), su_o (by omega), su_o (by omega), su_o (by omega)]
              exact im.2.2.2.2.2.2.2.2.2.2.2.2.2 q (by omega)
          · show _ = nI (if q = sn then k else sk q) ∧ _ = nI (if q = sn then i else sf q) ∧ _ = nI (if q = sn then j else st q)
            by_cases cq : q = sn
            · subst cq
              simp only [if_pos]
              refine ⟨?_, ?_, ?_⟩
              · rw [su_o (by omega), su_o (by omega), su_o (by omega), su_s]
              · rw [su_o (by omega), su_o (by omega), su_s]
              · rw [su_o (by omega), su_s]
            · simp only [if_neg cq]
              rw [su_o (by omega), su_o (by omega), su_o (by omega), su_o (by omega), su_o (by omega), su_o (by omega), su_o (by omega), su_o (by omega), su_o (by omega), su_o (by omega), su_o (by omega), su_o (by omega)]
              exact is.2.2.2.2.2.2.2.2.2.2 q (by omega)
          · rw [hs 0 100 (by omega) (by omega), ht 0 100 (by omega) (by omega)]; exact t1
          · rw [hs 0 101 (by omega) (by omega), ht 0 101 (by omega) (by omega)]; exact t2
      · rw [PA.s0 X cj, bd_t, PA.mn Y cj, bd_t, if_pos rfl, KIK.s X ck, bd_t, if_neg n10, if_neg (nI_m1 (by omega)), if_pos rfl]
        exact ⟨_, σ, τ, rfl, rfl, I0⟩
    · rw [PA.s0 X ci, bd_t, PA.mn Y ci, bd_t, if_pos rfl]
      rcases PA.or w h y with ⟨j, cj⟩ | cj
      · rw [PA.s X cj, bd_t, KIK.s X ck, bd_t, if_neg n10, if_pos rfl]
        exact ⟨_, σ, τ, rfl, rfl, I0⟩
      · rw [PA.s0 X cj, bd_t, KIK.s X ck, bd_t, if_neg n10, if_pos rfl]
        exact ⟨_, σ, τ, rfl, rfl, I0⟩
  · rw [KIK.mn Y ck, bd_t, if_pos rfl]
    refine ⟨-1, σ, τ, ?_, rfl, I0⟩
    rcases PA.or w h x with ⟨i, ci⟩ | ci <;> rcases PA.or w h y with ⟨j, cj⟩ | cj
    · rw [PA.s X ci, bd_t, PA.s X cj, bd_t, KIK.s0 X ck, bd_t, if_pos rfl]
    · rw [PA.s X ci, bd_t, PA.s0 X cj, bd_t, KIK.s0 X ck, bd_t, if_pos rfl]
    · rw [PA.s0 X ci, bd_t, PA.s X cj, bd_t, KIK.s0 X ck, bd_t, if_pos rfl]
    · rw [PA.s0 X ci, bd_t, PA.s0 X cj, bd_t, KIK.s0 X ck, bd_t, if_pos rfl]

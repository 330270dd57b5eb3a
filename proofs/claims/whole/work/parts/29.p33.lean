/-! pure: keep, back -/
section
variable {σ τ σ' τ' : St} {w h gn kn kE kS tl sn d t1 t2 n B : Nat} {gr sz wo fo tx sk sf st hg li pb : Nat → Nat} {g g' : Gr} {P P' : Nat → Gr} {sh : Nat → Nat → Bool}
theorem m_copy_loop {a b : Nat} (ha : a + 1673 ≤ 5019) (hb : b + 1673 ≤ 5019) (hab : a + 1673 ≤ b ∨ b + 1673 ≤ a) : ∀ (m N i : Nat) (τ : St), i + m = 1673 → ∃ τ', mX12_copyRow_2 (N + m + 1) (nI a) (nI b) (nI i) τ = some (0, τ') ∧ (∀ j, τ' 1 j = if b + i ≤ j ∧ j < b + 1673 then τ 1 (a + (j - b)) else τ 1 j) ∧ ∀ c j, c ≠ 1 → τ' c j = τ c j
  | 0, N, i, τ, e => by
    refine ⟨τ, ?_, fun j => by rw [if_neg (by omega)], fun _ _ _ => rfl⟩
    rw [show N + 0 + 1 = N + 1 from rfl, mX12_copyRow_2, show (1673 : Int32) = nI 1673 from rfl, if_neg (nI_nlt (by omega) (by omega))]
  | m + 1, N, i, τ, e => by
    obtain ⟨τ1, e1, e2, e3⟩ := m_copy_loop ha hb hab m N (i + 1) (s_up τ 1 (b + i) (τ 1 (a + i))) (by omega)
    refine ⟨τ1, ?_, fun j => ?_, fun c j hc => by rw [e3 c j hc, su_o (by omega)]⟩
    · rw [show N + (m + 1) + 1 = (N + m + 1) + 1 from rfl, mX12_copyRow_2, show (1673 : Int32) = nI 1673 from rfl, if_pos (nI_lt (by omega) (by omega)), nI_add, nI_add, gd_t (ib_nI (by omega) (by decide)), gd_t (ib_nI (by omega) (by decide)), nx_nI (by omega), nx_nI (by omega), lt_t, lt_t, li1, nI_add]
      exact e1
    · rw [e2 j]
      by_cases c : j = b + i
      · subst c
        rw [if_neg (by omega), if_pos (by omega), su_s]
        congr 1
        omega
      · by_cases c2 : b + (i + 1) ≤ j ∧ j < b + 1673
        · rw [if_pos c2, if_pos (by omega), su_o (by omega)]
        · rw [if_neg c2, if_neg (by omega), su_o (by omega)]
theorem m_copyRow {a b : Nat} (ha : a + 1673 ≤ 5019) (hb : b + 1673 ≤ 5019) (hab : a + 1673 ≤ b ∨ b + 1673 ≤ a) (mb : MB τ a g d P) (hd : d ≤ 10) : ∃ τ', mX12_copyRow (nI a) (nI b) τ = some (0, τ') ∧ MB τ' b g d P ∧ (∀ j, ¬ (b ≤ j ∧ j < b + 1673) → τ' 1 j = τ 1 j) ∧ ∀ c j, c ≠ 1 → τ' c j = τ c j := by
  obtain ⟨τ1, e1, e2, e3⟩ := m_copy_loop ha hb hab 1673 18326 0 τ (by omega)
  refine ⟨τ1, e1, ⟨?_, mb.2.1.mv (fun i hi => ?_), fun k hk => (mb.2.2 k hk).mv (fun i hi => ?_)⟩, fun j hj => by rw [e2, if_neg (by omega)], e3⟩
  · rw [e2, if_pos (by omega), Nat.sub_self]; exact mb.1
  · rw [e2, if_pos (by omega), show a + (b + 1 + i - b) = a + 1 + i by omega]
  · rw [e2, if_pos (by omega), show a + (b + 1 + 152 * (1 + k) + i - b) = a + 1 + 152 * (1 + k) + i by omega]
theorem s_cpR (i j : Nat) (σ : St) {n : Nat} (hn : n = 30 ∨ n = 10) : ∃ σ', mX3_copyRow i n j n σ = some (0, σ') ∧ (∀ q, q < n → σ' j q = σ i q) ∧ ∀ a q, a ≠ j → σ' a q = σ a q := by
  refine ⟨s_row σ j (va_cpy (σ i) (σ j) 0 0 n), ?_, fun q hq => ?_, fun a q ha => by rw [s_row_other σ ha]⟩
  · unfold mX3_copyRow
    rcases hn with rfl | rfl
    · rw [gd_t (by decide), lt_t]; rfl
    · rw [gd_t (by decide), lt_t]; rfl
  · rw [s_row_self, pk_cpy_in (by omega) (by omega)]
    congr 1
    omega
theorem s_copyOf {c o : Nat} (hco : c + 10 < o ∨ o + 10 < c) : ∃ σ', mX3_copyOf c o σ = some (0, σ') ∧ σ' c 0 = σ o 0 ∧ σ' c 1 = σ o 1 ∧ (∀ r, 1 ≤ r → r ≤ 6 → ∀ q, q < 30 → σ' (c + r) q = σ (o + r) q) ∧ (∀ r, 7 ≤ r → r ≤ 10 → ∀ q, q < 10 → σ' (c + r) q = σ (o + r) q) ∧ ∀ a q, ¬ (c ≤ a ∧ a ≤ c + 10) → σ' a q = σ a q := by
  obtain ⟨σ0, h0⟩ : ∃ σ0, σ0 = s_up (s_up σ c 0 (σ o 0)) c 1 (σ o 1) := ⟨_, rfl⟩
  have f0 : ∀ a q, a ≠ c → σ0 a q = σ a q := fun a q ha => by rw [h0, su_o (by omega), su_o (by omega)]
  obtain ⟨σ1, a1, b1, c1⟩ := s_cpR (o + 1) (c + 1) σ0 (n := 30) (Or.inl rfl)
  obtain ⟨σ2, a2, b2, c2⟩ := s_cpR (o + 2) (c + 2) σ1 (n := 30) (Or.inl rfl)
  obtain ⟨σ3, a3, b3, c3⟩ := s_cpR (o + 3) (c + 3) σ2 (n := 30) (Or.inl rfl)
  obtain ⟨σ4, a4, b4, c4⟩ := s_cpR (o + 4) (c + 4) σ3 (n := 30) (Or.inl rfl)
  obtain ⟨σ5, a5, b5, c5⟩ := s_cpR (o + 5) (c + 5) σ4 (n := 30) (Or.inl rfl)
  obtain ⟨σ6, a6, b6, c6⟩ := s_cpR (o + 6) (c + 6) σ5 (n := 30) (Or.inl rfl)
  obtain ⟨σ7, a7, b7, c7⟩ := s_cpR (o + 7) (c + 7) σ6 (n := 10) (Or.inr rfl)
  obtain ⟨σ8, a8, b8, c8⟩ := s_cpR (o + 8) (c + 8) σ7 (n := 10) (Or.inr rfl)
  obtain ⟨σ9, a9, b9, c9⟩ := s_cpR (o + 9) (c + 9) σ8 (n := 10) (Or.inr rfl)
  obtain ⟨σx, ax, bx, cx⟩ := s_cpR (o + 10) (c + 10) σ9 (n := 10) (Or.inr rfl)
  refine ⟨σx, ?_, ?_, ?_, fun r r1 r2 q hq => ?_, fun r r1 r2 q hq => ?_, fun a q ha => ?_⟩
  · unfold mX3_copyOf
    rw [lt_t, lt_t, su_o (i := o) (by omega), ← h0, a1, bd_t, a2, bd_t, a3, bd_t, a4, bd_t, a5, bd_t, a6, bd_t, a7, bd_t, a8, bd_t, a9, bd_t, ax, bd_t]
  · rw [cx _ _ (by omega), c9 _ _ (by omega), c8 _ _ (by omega), c7 _ _ (by omega), c6 _ _ (by omega), c5 _ _ (by omega), c4 _ _ (by omega), c3 _ _ (by omega), c2 _ _ (by omega), c1 _ _ (by omega), h0, su_o (by omega), su_s]
  · rw [cx _ _ (by omega), c9 _ _ (by omega), c8 _ _ (by omega), c7 _ _ (by omega), c6 _ _ (by omega), c5 _ _ (by omega), c4 _ _ (by omega), c3 _ _ (by omega), c2 _ _ (by omega), c1 _ _ (by omega), h0, su_s]
  · rcases (show r = 1 ∨ r = 2 ∨ r = 3 ∨ r = 4 ∨ r = 5 ∨ r = 6 by omega) with rfl | rfl | rfl | rfl | rfl | rfl
    · rw [cx _ _ (by omega), c9 _ _ (by omega), c8 _ _ (by omega), c7 _ _ (by omega), c6 _ _ (by omega), c5 _ _ (by omega), c4 _ _ (by omega), c3 _ _ (by omega), c2 _ _ (by omega), b1 q hq, f0 _ _ (by omega)]
    · rw [cx _ _ (by omega), c9 _ _ (by omega), c8 _ _ (by omega), c7 _ _ (by omega), c6 _ _ (by omega), c5 _ _ (by omega), c4 _ _ (by omega), c3 _ _ (by omega), b2 q hq, c1 _ _ (by omega), f0 _ _ (by omega)]
    · rw [cx _ _ (by omega), c9 _ _ (by omega), c8 _ _ (by omega), c7 _ _ (by omega), c6 _ _ (by omega), c5 _ _ (by omega), c4 _ _ (by omega), b3 q hq, c2 _ _ (by omega), c1 _ _ (by omega), f0 _ _ (by omega)]
    · rw [cx _ _ (by omega), c9 _ _ (by omega), c8 _ _ (by omega), c7 _ _ (by omega), c6 _ _ (by omega), c5 _ _ (by omega), b4 q hq, c3 _ _ (by omega), c2 _ _ (by omega), c1 _ _ (by omega), f0 _ _ (by omega)]
    · rw [cx _ _ (by omega), c9 _ _ (by omega), c8 _ _ (by omega), c7 _ _ (by omega), c6 _ _ (by omega), b5 q hq, c4 _ _ (by omega), c3 _ _ (by omega), c2 _ _ (by omega), c1 _ _ (by omega), f0 _ _ (by omega)]
    · rw [cx _ _ (by omega), c9 _ _ (by omega), c8 _ _ (by omega), c7 _ _ (by omega), b6 q hq, c5 _ _ (by omega), c4 _ _ (by omega), c3 _ _ (by omega), c2 _ _ (by omega), c1 _ _ (by omega), f0 _ _ (by omega)]
  · rcases (show r = 7 ∨ r = 8 ∨ r = 9 ∨ r = 10 by omega) with rfl | rfl | rfl | rfl
    · rw [cx _ _ (by omega), c9 _ _ (by omega), c8 _ _ (by omega), b7 q hq, c6 _ _ (by omega), c5 _ _ (by omega), c4 _ _ (by omega), c3 _ _ (by omega), c2 _ _ (by omega), c1 _ _ (by omega), f0 _ _ (by omega)]
    · rw [cx _ _ (by omega), c9 _ _ (by omega), b8 q hq, c7 _ _ (by omega), c6 _ _ (by omega), c5 _ _ (by omega), c4 _ _ (by omega), c3 _ _ (by omega), c2 _ _ (by omega), c1 _ _ (by omega), f0 _ _ (by omega)]
    · rw [cx _ _ (by omega), b9 q hq, c8 _ _ (by omega), c7 _ _ (by omega), c6 _ _ (by omega), c5 _ _ (by omega), c4 _ _ (by omega), c3 _ _ (by omega), c2 _ _ (by omega), c1 _ _ (by omega), f0 _ _ (by omega)]
    · rw [bx q hq, c9 _ _ (by omega), c8 _ _ (by omega), c7 _ _ (by omega), c6 _ _ (by omega), c5 _ _ (by omega), c4 _ _ (by omega), c3 _ _ (by omega), c2 _ _ (by omega), c1 _ _ (by omega), f0 _ _ (by omega)]
  · rw [cx _ _ (by omega), c9 _ _ (by omega), c8 _ _ (by omega), c7 _ _ (by omega), c6 _ _ (by omega), c5 _ _ (by omega), c4 _ _ (by omega), c3 _ _ (by omega), c2 _ _ (by omega), c1 _ _ (by omega), f0 _ _ (by omega)]
theorem s_copyG {c o : Nat} (hco : c + 10 < o ∨ o + 10 < c) (s : SGo σ o w h g d P) (h30 : w * h ≤ 30) (hd : d ≤ 10) : ∃ σ', mX3_copyOf c o σ = some (0, σ') ∧ SGo σ' c w h g d P ∧ ∀ a q, ¬ (c ≤ a ∧ a ≤ c + 10) → σ' a q = σ a q := by
  obtain ⟨σ1, a1, a2, a3, a4, a5, a6⟩ := s_copyOf (σ := σ) hco
  refine ⟨σ1, a1, ⟨by rw [a2]; exact s.1, by rw [a3]; exact s.2.1, fun i hi => ?_, fun k hk => ?_⟩, a6⟩
  · rw [a4 1 (by omega) (by omega) i (by omega), a4 2 (by omega) (by omega) i (by omega), a4 3 (by omega) (by omega) i (by omega), a4 4 (by omega) (by omega) i (by omega), a4 5 (by omega) (by omega) i (by omega), a4 6 (by omega) (by omega) i (by omega)]
    exact s.2.2.1 i hi
  · rw [a5 7 (by omega) (by omega) k (by omega), a5 8 (by omega) (by omega) k (by omega), a5 9 (by omega) (by omega) k (by omega), a5 10 (by omega) (by omega) k (by omega)]
    exact s.2.2.2 k hk
end
theorem s_isImage_t {σ : St} {v : Nat} (hv : v < 2) : mX11_isImage (nI v) σ = some (1, σ) := by
  unfold mX11_isImage
  rw [if_neg (nI_pos (by omega)), if_pos (show nI v < 2 from nI_lt (b := 2) hv (by decide))]
theorem s_isImage_f {σ : St} {b : Int32} (h : ¬ ∃ v, v < 2 ∧ b = nI v) : mX11_isImage b σ = some (0, σ) := by
  unfold mX11_isImage
  rcases lt_or (w := 2) (by decide) h with q | q
  · rw [if_pos q]
  · rw [if_neg (show ¬ b < 2 from q)]; split <;> rfl
theorem m_in1_t {τ : St} {v : Nat} (hv : v < 2) : mX12_in (nI v).toInt64 0 1 τ = some (1, τ) := by
  rw [m_in1, decide_eq_true (show ¬ nI v < 0 ∧ ¬ 1 < nI v from (nlt_pred (x := nI v) (w := 2) (by decide)).mpr ⟨v, hv, rfl⟩)]
  rfl
theorem m_in1_f {τ : St} {b : Int32} (h : ¬ ∃ v, v < 2 ∧ b = nI v) : mX12_in b.toInt64 0 1 τ = some (0, τ) := by
  rw [m_in1, decide_eq_false (show ¬ (¬ b < 0 ∧ ¬ 1 < b) from fun q => h ((nlt_pred (x := b) (w := 2) (by decide)).mp q))]
  rfl
theorem sm_keep : Sm1 Inv mX11_keep mX12_keep := by
  intro b σ τ I
  have I0 := I
  obtain ⟨w, h, gn, kn, kE, kS, gr, sz, wo, fo, tl, tx, sn, sk, sf, st, g, d, P, cv, im, is, ig, img, t1, t2⟩ := I
  have X := SX.of cv is ig.1 ig.2.2.1
  have h30 := X.1.1
  have hd := ig.2.2.2.1
  unfold mX11_keep mX12_keep
  rcases Classical.em (∃ v, v < 2 ∧ b = nI v) with ⟨v, hv, rfl⟩ | cb
  · obtain ⟨σ1, a1, a2, a3⟩ := s_copyG (c := 37 + 11 * v) (o := 26) (by omega) ig.1 h30 hd
    obtain ⟨τ1, b1, b2, b3, b4⟩ := m_copyRow (a := 0) (b := 1673 * (1 + v)) (by omega) (by omega) (by omega) ig.2.1 hd
    have fs1 : ∀ a q, ¬ (37 + 11 * v ≤ a ∧ a ≤ 37 + 11 * v + 10) → ¬ (a = 2 ∧ q = v) → s_up σ1 2 v 1 a q = σ a q := fun a q h1 h2 => by rw [su_o (by omega), a3 a q h1]
    have ft : ∀ a q, a ≠ 1 → ¬ (a = 2 ∧ q = v) → s_up τ1 2 v 1 a q = τ a q := fun a q h1 h2 => by rw [su_o (by omega), b4 a q h1]
    have ft1 : ∀ q, ¬ (1673 * (1 + v) ≤ q ∧ q < 1673 * (1 + v) + 1673) → s_up τ1 2 v 1 1 q = τ 1 q := fun q h1 => by rw [su_o (by omega), b3 q h1]
    have is' := is.fr2 (σ' := s_up σ1 2 v 1) (fun p q hpq => fs1 p q (by omega) (by omega))
    have im' := im.fr2 (τ' := s_up τ1 2 v 1) (fun p q h1 h2 _ => ft p q h1 (by omega))
    have ig' : IG (s_up σ1 2 v 1) (s_up τ1 2 v 1) 26 0 w h kE kS g d P := by
      obtain ⟨sg, sd⟩ := ig.1.split
      refine ⟨SGo.join (sg.fr (fun p q hpq => fs1 p q (by omega) (by omega))) (sd.fr (fun p q hpq => fs1 p q (by omega) (by omega))), ⟨by rw [ft1 0 (by omega)]; exact ig.2.1.1, ig.2.1.2.1.mv (fun i hi => ft1 _ (by omega)), fun k hk => (ig.2.1.2.2 k hk).mv (fun i hi => ft1 _ (by omega))⟩, ig.2.2⟩
    have X' := SX.of cv is' ig'.1 ig'.2.2.1
    have Y' := MX.of cv im' ig'.2.1 ig'.2.2.1
    have S1 := s_sum (r := 29) h30 X'.2.2.1 (fun j hj => (ig'.1.2.2.1 j hj).2.2.1)
    have eS : mX11_keep (nI v) σ = some (nI (sumN (g 1) (w * h)), s_up σ1 2 v 1) := by
      unfold mX11_keep
      rw [s_isImage_t hv, bd_t, if_neg n10]
      rcases (show v = 0 ∨ v = 1 by omega) with rfl | rfl
      · rw [if_pos (show nI 0 = 0 from rfl), show mX3_copyOf 37 26 σ = some (0, σ1) from a1, bd_t, gd_t (by decide), lt_t, show s_up σ1 2 (nx (nI 0)) 1 = s_up σ1 2 0 1 from rfl, S1, bd_t]
      · rw [if_neg (by decide), if_pos (show nI 1 = 1 from rfl), show mX3_copyOf 48 26 σ = some (0, σ1) from a1, bd_t, gd_t (by decide), lt_t, show s_up σ1 2 (nx (nI 1)) 1 = s_up σ1 2 1 1 from rfl, S1, bd_t]
    unfold mX11_keep at eS
    refine ⟨_, s_up σ1 2 v 1, s_up τ1 2 v 1, eS, ?_, ?_⟩
    · have b1' : mX12_copyRow 0 (nI (1673 * (1 + v))) τ = some (0, τ1) := b1
      have uu : (1673 : Int32) * (1 + nI v) = nI (1673 * (1 + v)) := by rw [show (1673 : Int32) = nI 1673 from rfl, li1, nI_add, pk_mul]
      rw [m_in1_t hv, bd_t, if_neg n10, uu, b1', bd_t, gd_t (ib_nI hv (by decide)), nx_nI (by omega), lt_t, m_lying Y', bd_t]
    · refine ⟨w, h, gn, kn, kE, kS, gr, sz, wo, fo, tl, tx, sn, sk, sf, st, g, d, P, cv, im', is', ig', fun q hq => ?_, ?_, ?_⟩
      · by_cases c : q = v
        · subst c
          refine ⟨true, by rw [su_s]; rfl, by rw [su_s]; rfl, fun _ => ⟨g, d, P, ?_, ?_, ig.2.2⟩⟩
          · obtain ⟨s1, s2, s3, s4⟩ := a2
            refine ⟨by rw [su_o (by omega)]; exact s1, by rw [su_o (by omega)]; exact s2, fun i hi => ?_, fun k hk => ?_⟩
            · rw [su_o (by omega), su_o (by omega), su_o (by omega), su_o (by omega), su_o (by omega), su_o (by omega)]; exact s3 i hi
            · rw [su_o (by omega), su_o (by omega), su_o (by omega), su_o (by omega)]; exact s4 k hk
          · exact ⟨by rw [su_o (by omega)]; exact b2.1, b2.2.1.mv (fun i hi => su_o (by omega)), fun k hk => (b2.2.2 k hk).mv (fun i hi => su_o (by omega))⟩
        · obtain ⟨kp, e1, e2, e3⟩ := img q hq
          refine ⟨kp, by rw [fs1 2 q (by omega) (by omega)]; exact e1, by rw [ft 2 q (by omega) (by omega)]; exact e2, fun hk => ?_⟩
          obtain ⟨g1, d1, P1, ⟨s1, s2, s3, s4⟩, m1, r⟩ := e3 hk
          have hd1 := r.2.1
          refine ⟨g1, d1, P1, ⟨by rw [fs1 _ _ (by omega) (by omega)]; exact s1, by rw [fs1 _ _ (by omega) (by omega)]; exact s2, fun i hi => ?_, fun k hk => ?_⟩, ⟨by rw [ft1 _ (by omega)]; exact m1.1, m1.2.1.mv (fun i hi => ft1 _ (by omega)), fun k hk => (m1.2.2 k hk).mv (fun i hi => ft1 _ (by omega))⟩, r⟩
          · rw [fs1 _ _ (by omega) (by omega), fs1 _ _ (by omega) (by omega), fs1 _ _ (by omega) (by omega), fs1 _ _ (by omega) (by omega), fs1 _ _ (by omega) (by omega), fs1 _ _ (by omega) (by omega)]; exact s3 i hi
          · rw [fs1 _ _ (by omega) (by omega), fs1 _ _ (by omega) (by omega), fs1 _ _ (by omega) (by omega), fs1 _ _ (by omega) (by omega)]; exact s4 k hk
      · rw [fs1 0 100 (by omega) (by omega), ft 0 100 (by omega) (by omega)]; exact t1
      · rw [fs1 0 101 (by omega) (by omega), ft 0 101 (by omega) (by omega)]; exact t2
  · rw [s_isImage_f cb, bd_t, if_pos rfl, m_in1_f cb, bd_t, if_pos rfl]
    exact ⟨_, σ, τ, rfl, rfl, I0⟩
theorem sm_back : Sm1 Inv mX11_back mX12_back := by
  intro b σ τ I
  have I0 := I
  obtain ⟨w, h, gn, kn, kE, kS, gr, sz, wo, fo, tl, tx, sn, sk, sf, st, g, d, P, cv, im, is, ig, img, t1, t2⟩ := I
  have X := SX.of cv is ig.1 ig.2.2.1
  have h30 := X.1.1
  unfold mX11_back mX12_back
  rcases Classical.em (∃ v, v < 2 ∧ b = nI v) with ⟨v, hv, rfl⟩ | cb
  · obtain ⟨kp, e1, e2, e3⟩ := img v hv
    rw [s_isImage_t hv, bd_t, if_neg n10, m_in1_t hv, bd_t, if_neg n10, gd_t (ib_nI hv (by decide)), gd_t (ib_nI hv (by decide))]
    simp only [nx_nI (show v < 2 ^ 31 by omega), e1, e2]
    cases kp with
    | false =>
      rw [z1_f, if_pos rfl, if_pos rfl]
      exact ⟨_, σ, τ, rfl, rfl, I0⟩
    | true =>
      obtain ⟨g', d', P', ig1⟩ := e3 rfl
      have hd := ig1.2.2.2.1
      obtain ⟨σ1, a1, a2, a3⟩ := s_copyG (c := 26) (o := 37 + 11 * v) (by omega) ig1.1 h30 hd
      obtain ⟨τ1, b1, b2, b3, b4⟩ := m_copyRow (a := 1673 * (1 + v)) (b := 0) (by omega) (by omega) (by omega) ig1.2.1 hd
      have is' := is.fr2 (σ' := σ1) (fun p q hpq => a3 p q (by omega))
      have im' := im.fr2 (τ' := τ1) (fun p q h1 h2 _ => b4 p q h1)
      have X' := SX.of cv is' a2 ig1.2.2.1
      have Y' := MX.of cv im' b2 ig1.2.2.1
      have S1 := s_sum (r := 29) h30 X'.2.2.1 (fun j hj => (a2.2.2.1 j hj).2.2.1)
      rw [z1_t, if_neg n10, if_neg n10]
      have eS : (if nI v = 0 then (bd (mX3_copyOf 26 37 σ) fun _ s6 => bd (mX11_sumOf 29 30 s6) fun r8 s9 => some (r8, s9)) else if nI v = 1 then (bd (mX3_copyOf 26 48 σ) fun _ s12 => bd (mX11_sumOf 29 30 s12) fun r14 s15 => some (r14, s15)) else none) = some (nI (sumN (g' 1) (w * h)), σ1) := by
        rcases (show v = 0 ∨ v = 1 by omega) with rfl | rfl
        · rw [if_pos (show nI 0 = 0 from rfl), show mX3_copyOf 26 37 σ = some (0, σ1) from a1, bd_t, S1, bd_t]
        · rw [if_neg (by decide), if_pos (show nI 1 = 1 from rfl), show mX3_copyOf 26 48 σ = some (0, σ1) from a1, bd_t, S1, bd_t]
      refine ⟨_, σ1, τ1, eS, ?_, ?_⟩
      · rw [show (1673 : Int32) = nI 1673 from rfl, li1, nI_add, pk_mul, show (0 : Int32) = nI 0 from rfl, b1, bd_t, m_lying Y', bd_t]
      · exact Inv.nw cv im is img t1 t2 (fun p q hpq => a3 p q (by omega)) (fun p q h1 h2 => b4 p q h1) (fun q hq => b3 q (by omega)) ⟨a2, b2, ig1.2.2⟩
  · rw [s_isImage_f cb, bd_t, if_pos rfl, m_in1_f cb, bd_t, if_pos rfl]
    exact ⟨_, σ, τ, rfl, rfl, I0⟩

/-! pure: now, feet -/
def allF (f : Nat → Bool) : Nat → Nat → Bool
  | _, 0 => true
  | i, m + 1 => f i && allF f (i + 1) m
def SE (σ : St) (kn w h sn : Nat) (sk sf st : Nat → Nat) : Prop := σ 0 15 = nI sn ∧ sn ≤ 6 ∧ ∀ k, k < sn → σ 4 k = nI (sk k) ∧ σ 5 k = nI (sf k) ∧ σ 6 k = nI (st k) ∧ sk k < kn ∧ sf k < w * h ∧ st k < w * h
def ME (τ : St) (kn w h sn : Nat) (sk sf st : Nat → Nat) : Prop := τ 0 15 = nI sn ∧ sn ≤ 6 ∧ ∀ k, k < sn → τ 10 (3 * k) = nI (sk k) ∧ τ 10 (3 * k + 1) = nI (sf k) ∧ τ 10 (3 * k + 2) = nI (st k) ∧ sk k < kn ∧ sf k < w * h ∧ st k < w * h
section
variable {σ τ σ' τ' : St} {w h gn kn kE kS tl sn d t1 t2 n : Nat} {gr sz wo fo tx sk sf st hg li pb : Nat → Nat} {g : Gr} {P : Nat → Gr} {sh : Nat → Nat → Bool}
theorem SE.of (cv : CV w h gn kn kE kS gr sz wo fo tl tx sn sk sf st) (is : IS σ w h gn kn kE kS gr sz wo fo tl tx sn sk sf st) : SE σ kn w h sn sk sf st := by
  obtain ⟨c1, c2, c3, c4, c5, c6, c7, c8, c9, c10, c11⟩ := cv
  obtain ⟨b1, b2, b3, b4, b5, b6, b7, b8, b9, b10, b11⟩ := is
  exact ⟨b8, c10, fun k hk => ⟨(b11 k hk).1, (b11 k hk).2.1, (b11 k hk).2.2, c11 k hk⟩⟩
theorem ME.of (cv : CV w h gn kn kE kS gr sz wo fo tl tx sn sk sf st) (im : IM τ w h gn kn kE kS gr sz wo fo tl tx sn sk sf st) : ME τ kn w h sn sk sf st := by
  obtain ⟨c1, c2, c3, c4, c5, c6, c7, c8, c9, c10, c11⟩ := cv
  obtain ⟨a1, a2, a3, a4, a5, a6, a7, a8, a9, a10, a11, a12, a13, a14⟩ := im
  exact ⟨a7, c10, fun k hk => ⟨(a14 k hk).1, (a14 k hk).2.1, (a14 k hk).2.2, c11 k hk⟩⟩
theorem SE.q (E : SE σ kn w h sn sk sf st) (hs : ∀ i j, i ≤ 6 → σ' i j = σ i j) : SE σ' kn w h sn sk sf st := by
  obtain ⟨e1, e2, e3⟩ := E
  refine ⟨by rw [hs _ _ (by omega)]; exact e1, e2, fun k hk => ?_⟩
  rw [hs _ _ (by omega), hs _ _ (by omega), hs _ _ (by omega)]; exact e3 k hk
theorem ME.q (E : ME τ kn w h sn sk sf st) (ht : MQu τ τ') : ME τ' kn w h sn sk sf st := by
  obtain ⟨e1, e2, e3⟩ := E
  refine ⟨by rw [ht _ _ (by omega)]; exact e1, e2, fun k hk => ?_⟩
  rw [ht _ _ (by omega), ht _ _ (by omega), ht _ _ (by omega)]; exact e3 k hk
/-- a thing seen is so -/
def soF (sh : Nat → Nat → Bool) (hg gr : Nat → Nat) (w : Nat) (sz fo sk sf st : Nat → Nat) (q : Nat) : Bool := (rl sh hg gr w (sz (sk q)) (fo (sk q)) (sf q)).1 == st q
theorem s_so_loop : ∀ (m N i : Nat) (σ : St), SX σ w h sh hg gr kn sz fo → SE σ kn w h sn sk sf st → i + m = sn → ∃ σ', mX11_allSeenIsSo_2 (N + m + 1) (nI i) σ = some (z1 (allF (soF sh hg gr w sz fo sk sf st) i m), σ') ∧ SQu σ σ'
  | 0, N, i, σ, X, E, e => by
    have h6 := E.2.1
    refine ⟨σ, ?_, SQu.rfl' σ⟩
    rw [show N + 0 + 1 = N + 1 from rfl, mX11_allSeenIsSo_2, E.1, if_neg (nI_nlt (by omega) (by omega))]
    rfl
  | m + 1, N, i, σ, X, E, e => by
    have h6 := E.2.1
    have h30 := X.1.1
    obtain ⟨f1, f2, f3, f4, f5, f6⟩ := E.2.2 i (by omega)
    obtain ⟨σ1, e1, q1⟩ := s_endsAt X f4 f5 (dd := st i) (by omega)
    rw [show N + (m + 1) + 1 = (N + m + 1) + 1 from rfl, mX11_allSeenIsSo_2, E.1, if_pos (nI_lt (by omega) (by omega)), gd_t (ib_nI (by omega) (by decide)), gd_t (ib_nI (by omega) (by decide)), gd_t (ib_nI (by omega) (by decide)), nx_nI (by omega), f1, f2, f3, e1, bd_t]
    unfold allF
    show ∃ σ', _ = some (z1 (((rl sh hg gr w (sz (sk i)) (fo (sk i)) (sf i)).1 == st i) && _), σ') ∧ _
    cases hb : (rl sh hg gr w (sz (sk i)) (fo (sk i)) (sf i)).1 == st i with
    | true =>
      obtain ⟨σ2, e2, q2⟩ := s_so_loop m N (i + 1) σ1 (X.q q1) (E.q (fun a b h1 => q1 a b (by omega) (by omega))) (by omega)
      refine ⟨σ2, ?_, q1.tr q2⟩
      rw [z1_t, if_neg n10, lt_t, li1, nI_add, e2, Bool.true_and]
    | false =>
      refine ⟨σ1, ?_, q1⟩
      rw [z1_f, if_pos rfl, Bool.false_and]
      rfl
theorem s_so (X : SX σ w h sh hg gr kn sz fo) (E : SE σ kn w h sn sk sf st) : ∃ σ', mX11_allSeenIsSo σ = some (z1 (allF (soF sh hg gr w sz fo sk sf st) 0 sn), σ') ∧ SQu σ σ' := by
  have h6 := E.2.1
  have L := s_so_loop sn (19999 - sn) 0 σ X E (by omega)
  rw [show 19999 - sn + sn + 1 = FU by unfold FU; omega] at L
  exact L
theorem m_so_f (N : Nat) (v : Int32) : mX12_isSo_4 (N + 1) 0 v τ = some (0, τ) := by
  rw [mX12_isSo_4, if_pos rfl, gd_t (by decide)]
theorem m_so_loop : ∀ (m N i : Nat) (τ : St), MX τ w h kE kS li pb t1 t2 hg gr kn sz fo → ME τ kn w h sn sk sf st → i + m = sn → ∃ τ', mX12_isSo_4 (N + m + 1) 1 (nI i) τ = some (z1 (allF (soF (shutA w h kE kS pb t1 t2) hg gr w sz fo sk sf st) i m), τ') ∧ MQu τ τ'
  | 0, N, i, τ, Y, E, e => by
    have h6 := E.2.1
    refine ⟨τ, ?_, MQu.rfl' τ⟩
    rw [show N + 0 + 1 = N + 1 from rfl, mX12_isSo_4, if_neg n10, E.1, if_neg (nI_nlt (by omega) (by omega)), gd_t (by decide)]
    rfl
  | m + 1, N, i, τ, Y, E, e => by
    have h6 := E.2.1
    have h30 := Y.n30
    obtain ⟨f1, f2, f3, f4, f5, f6⟩ := E.2.2 i (by omega)
    obtain ⟨τ1, e1, q1⟩ := m_endOf Y f4 f5
    have l := Y.lt (size := sz (sk i)) (f0 := fo (sk i)) f5
    obtain ⟨-, -, g3, -, -, -⟩ := (E.q q1).2.2 i (by omega)
    rw [show N + (m + 1) + 1 = (N + m + 1) + 1 from rfl, mX12_isSo_4, if_neg n10, E.1, if_pos (nI_lt (by omega) (by omega)), li3, li1, li2, pk_mul, nI_add, nI_add, gd_t (ib_nI (by omega) (by decide)), gd_t (ib_nI (by omega) (by decide)), nx_nI (by omega), nx_nI (by omega), f1, f2, e1, bd_t, gd_t (ib_nI (by omega) (by decide)), nx_nI (by omega), g3]
    unfold mX12_isSo_56 allF
    show ∃ τ', _ = some (z1 (((rl (shutA w h kE kS pb t1 t2) hg gr w (sz (sk i)) (fo (sk i)) (sf i)).1 == st i) && _), τ') ∧ _
    simp only [lt_t, nI_inj (show (rl (shutA w h kE kS pb t1 t2) hg gr w (sz (sk i)) (fo (sk i)) (sf i)).1 < 2 ^ 31 by omega) (show st i < 2 ^ 31 by omega)]
    by_cases hb : (rl (shutA w h kE kS pb t1 t2) hg gr w (sz (sk i)) (fo (sk i)) (sf i)).1 = st i
    · obtain ⟨τ2, e2, q2⟩ := m_so_loop m N (i + 1) τ1 (Y.q q1) (E.q q1) (by omega)
      refine ⟨τ2, ?_, q1.tr q2⟩
      rw [if_pos hb, beq_iff_eq.mpr hb, Bool.true_and, show nI i + 1 = nI (i + 1) by rw [li1, nI_add]]
      exact e2
    · refine ⟨τ1, ?_, q1⟩
      rw [if_neg hb, beq_eq_false_iff_ne.mpr hb, Bool.false_and, m_so_f]
      rfl
theorem m_so (Y : MX τ w h kE kS li pb t1 t2 hg gr kn sz fo) (E : ME τ kn w h sn sk sf st) : ∃ τ', mX12_isSo τ = some (z1 (allF (soF (shutA w h kE kS pb t1 t2) hg gr w sz fo sk sf st) 0 sn), τ') ∧ MQu τ τ' := by
  have h6 := E.2.1
  have L := m_so_loop sn (19999 - sn) 0 τ Y E (by omega)
  rw [show 19999 - sn + sn + 1 = FU by unfold FU; omega] at L
  exact L
theorem s_sum_loop {r : Nat} {f : Nat → Nat} (n30 : n ≤ 30) (hn : σ 10 2 = nI n) (hf : ∀ j, j < n → σ r j = nI (f j)) : ∀ (m N i : Nat), i + m = n → mX11_sumOf_4 r 30 (N + m + 1) (nI (sumN f i)) (nI i) σ = some (nI (sumN f n), σ)
  | 0, N, i, e => by
    rw [show N + 0 + 1 = N + 1 from rfl, mX11_sumOf_4, hn, if_neg (nI_nlt (by omega) (by omega)), show i = n by omega]
  | m + 1, N, i, e => by
    rw [show N + (m + 1) + 1 = (N + m + 1) + 1 from rfl, mX11_sumOf_4, hn, if_pos (nI_lt (by omega) (by omega)), if_pos (show nI i < Int32.ofNat 30 from nI_lt (by omega) (by decide)), gd_t (ib_nI (by omega) (by decide)), nx_nI (by omega), hf i (by omega), lt_t, lt_t, nI_add, li1, nI_add]
    exact s_sum_loop n30 hn hf m N (i + 1) (by omega)
theorem s_sum {r : Nat} {f : Nat → Nat} (n30 : n ≤ 30) (hn : σ 10 2 = nI n) (hf : ∀ j, j < n → σ r j = nI (f j)) : mX11_sumOf r 30 σ = some (nI (sumN f n), σ) := by
  have L := s_sum_loop n30 hn hf n (19999 - n) 0 (by omega)
  rw [show 19999 - n + n + 1 = FU by unfold FU; omega] at L
  exact L
theorem m_lying_loop (Y : MX τ w h kE kS li pb t1 t2 hg gr kn sz fo) : ∀ (m N i : Nat), i + m = w * h → mX12_lying_4 (N + m + 1) (nI (sumN li i)) (nI i) τ = some (nI (sumN li (w * h)), τ)
  | 0, N, i, e => by
    have h30 := Y.n30
    rw [show N + 0 + 1 = N + 1 from rfl, mX12_lying_4, m_cells Y, bd_t, if_neg (nI_nlt (by omega) (by omega)), show i = w * h by omega]
  | m + 1, N, i, e => by
    have h30 := Y.n30
    rw [show N + (m + 1) + 1 = (N + m + 1) + 1 from rfl, mX12_lying_4, m_cells Y, bd_t, if_pos (nI_lt (by omega) (by omega)), m_liesOn Y (by omega), bd_t, lt_t, lt_t, nI_add, li1, nI_add]
    exact m_lying_loop Y m N (i + 1) (by omega)
theorem m_lying (Y : MX τ w h kE kS li pb t1 t2 hg gr kn sz fo) : mX12_lying τ = some (nI (sumN li (w * h)), τ) := by
  have h30 := Y.n30
  have L := m_lying_loop Y (w * h) (19999 - w * h) 0 (by omega)
  rw [show 19999 - w * h + w * h + 1 = FU by unfold FU; omega] at L
  exact L
theorem m_sum_loop (Y : MX τ w h kE kS li pb t1 t2 hg gr kn sz fo) {b : Nat} (hb : b < 200) {f : Nat → Nat} (hf : ∀ j, j < w * h → τ 1 (b + j) = nI (f j)) : ∀ (m N i : Nat), i + m = w * h → mX12_sumFrom_4 (N + m + 1) (nI b) (nI (sumN f i)) (nI i) τ = some (nI (sumN f (w * h)), τ)
  | 0, N, i, e => by
    have h30 := Y.n30
    rw [show N + 0 + 1 = N + 1 from rfl, mX12_sumFrom_4, m_cells Y, bd_t, if_neg (nI_nlt (by omega) (by omega)), show i = w * h by omega]
  | m + 1, N, i, e => by
    have h30 := Y.n30
    rw [show N + (m + 1) + 1 = (N + m + 1) + 1 from rfl, mX12_sumFrom_4, m_cells Y, bd_t, if_pos (nI_lt (by omega) (by omega)), nI_add, gd_t (ib_nI (by omega) (by decide)), nx_nI (by omega), hf i (by omega), lt_t, lt_t, nI_add, li1, nI_add]
    exact m_sum_loop Y hb hf m N (i + 1) (by omega)
theorem m_sum (Y : MX τ w h kE kS li pb t1 t2 hg gr kn sz fo) {b : Nat} (hb : b < 200) {f : Nat → Nat} (hf : ∀ j, j < w * h → τ 1 (b + j) = nI (f j)) : mX12_sumFrom (nI b) τ = some (nI (sumN f (w * h)), τ) := by
  have h30 := Y.n30
  have L := m_sum_loop Y hb hf (w * h) (19999 - w * h) 0 (by omega)
  rw [show 19999 - w * h + w * h + 1 = FU by unfold FU; omega] at L
  exact L
theorem m_planks_loop (Q : MP τ li pb) : ∀ (m N s : Nat), s + m = 60 → mX12_planksNow_4 (N + m + 1) (nI (pcnt pb s)) (nI s) τ = some (nI (pcnt pb 60), τ)
  | 0, N, s, e => by
    rw [show N + 0 + 1 = N + 1 from rfl, mX12_planksNow_4, show (60 : Int32) = nI 60 from rfl, if_neg (nI_nlt (by omega) (by omega)), show s = 60 by omega]
  | m + 1, N, s, e => by
    rw [show N + (m + 1) + 1 = (N + m + 1) + 1 from rfl, mX12_planksNow_4, show (60 : Int32) = nI 60 from rfl, if_pos (nI_lt (by omega) (by omega)), m_isPlank Q (by omega), bd_t]
    have L := m_planks_loop Q m N (s + 1) (by omega)
    unfold mX12_planksNow_24
    unfold pcnt at L
    simp only [lt_t]
    cases hb : plk pb s with
    | true =>
      rw [hb, if_pos rfl] at L
      rw [z1_t, if_neg n10, li1, nI_add, nI_add]
      exact L
    | false =>
      rw [hb, if_neg Bool.false_ne_true] at L
      rw [z1_f, if_pos rfl, li0, nI_add, li1, nI_add]
      exact L
theorem m_planksNow (Q : MP τ li pb) : mX12_planksNow τ = some (nI (pcnt pb 60), τ) := m_planks_loop Q 60 19939 0 (by omega)
theorem MP.of (mb : MB τ 0 g d P) (V : GV w h kE kS g) : MP τ (g 1) (g 5) := by
  intro i hi
  obtain ⟨b1, b2, b3, b4, b5⟩ := mb.2.1 i hi
  have := (V.le hi).1
  exact ⟨by rw [show 31 + i = 0 + 1 + 30 + i by omega]; exact b2, by omega, V.2.1 i⟩
end
theorem sm_now : Sm1 Inv mX11_now mX12_now := by
  intro a σ τ I
  have I0 := I
  obtain ⟨w, h, gn, kn, kE, kS, gr, sz, wo, fo, tl, tx, sn, sk, sf, st, g, d, P, cv, im, is, ig, img, t1, t2⟩ := I
  have X := SX.of cv is ig.1 ig.2.2.1
  have Y := MX.of cv im ig.2.1 ig.2.2.1
  have h30 := X.1.1
  have s3 := ig.1.2.2.1
  have m2 := ig.2.1.2.1
  obtain ⟨σ', e, p⟩ := s_so X (SE.of cv is)
  obtain ⟨τ', f, q⟩ := m_so Y (ME.of cv im)
  unfold mX11_now mX12_now
  have e61 : (61 : Int32) = nI 61 := id rfl
  have e91 : (91 : Int32) = nI 91 := id rfl
  have e121 : (121 : Int32) = nI 121 := id rfl
  have S1 := s_sum (r := 29) h30 X.2.2.1 (fun j hj => (s3 j hj).2.2.1)
  have S2 := s_sum (r := 30) h30 X.2.2.1 (fun j hj => (s3 j hj).2.2.2.1)
  have S3 := s_sum (r := 31) h30 X.2.2.1 (fun j hj => (s3 j hj).2.2.2.2.1)
  have S4 := s_sum (r := 32) h30 X.2.2.1 (fun j hj => (s3 j hj).2.2.2.2.2)
  have M2 := m_sum Y (b := 61) (by omega) (f := g 2) (fun j hj => by have := (m2 j (by omega)).2.2.1; rw [show 61 + j = 0 + 1 + 60 + j by omega]; exact this)
  have M3 := m_sum Y (b := 91) (by omega) (f := g 3) (fun j hj => by have := (m2 j (by omega)).2.2.2.1; rw [show 91 + j = 0 + 1 + 90 + j by omega]; exact this)
  have M4 := m_sum Y (b := 121) (by omega) (f := g 4) (fun j hj => by have := (m2 j (by omega)).2.2.2.2; rw [show 121 + j = 0 + 1 + 120 + j by omega]; exact this)
  simp only [e61, e91, e121, S1, S2, S3, S4, m_lying Y, M2, M3, M4, bd_t, e, f, m_planksNow (MP.of ig.2.1 ig.2.2.1)]
  rw [ig.1.1]
  by_cases c0 : a = 0
  · exact ⟨_, σ, τ, by rw [if_pos c0], by rw [if_pos c0], I0⟩
  by_cases c1 : a = 1
  · exact ⟨_, σ, τ, by rw [if_neg c0, if_pos c1], by rw [if_neg c0, if_pos c1], I0⟩
  by_cases c2 : a = 2
  · exact ⟨_, σ, τ, by rw [if_neg c0, if_neg c1, if_pos c2], by rw [if_neg c0, if_neg c1, if_pos c2], I0⟩
  by_cases c3 : a = 3
  · exact ⟨_, σ, τ, by rw [if_neg c0, if_neg c1, if_neg c2, if_pos c3], by rw [if_neg c0, if_neg c1, if_neg c2, if_pos c3], I0⟩
  by_cases c4 : a = 4
  · exact ⟨_, σ, τ, by rw [if_neg c0, if_neg c1, if_neg c2, if_neg c3, if_pos c4], by rw [if_neg c0, if_neg c1, if_neg c2, if_neg c3, if_pos c4], I0⟩
  by_cases c5 : a = 5
  · exact ⟨_, σ, τ, by rw [if_neg c0, if_neg c1, if_neg c2, if_neg c3, if_neg c4, if_pos c5], by rw [if_neg c0, if_neg c1, if_neg c2, if_neg c3, if_neg c4, if_pos c5], I0⟩
  by_cases c6 : a = 6
  · rw [if_neg c0, if_neg c1, if_neg c2, if_neg c3, if_neg c4, if_neg c5, if_pos c6, if_neg c0, if_neg c1, if_neg c2, if_neg c3, if_neg c4, if_neg c5, if_pos c6]
    cases allF (soF (shutA w h kE kS (g 5) 99 99) (g 0) gr w sz fo sk sf st) 0 sn with
    | true => exact ⟨1, σ', τ', by rw [z1_t, if_neg n10], by rw [z1_t, if_neg n10], I0.q p q⟩
    | false => exact ⟨0, σ', τ', by rw [z1_f, if_pos rfl], by rw [z1_f, if_pos rfl], I0.q p q⟩
  · exact ⟨_, σ, τ, by rw [if_neg c0, if_neg c1, if_neg c2, if_neg c3, if_neg c4, if_neg c5, if_neg c6], by rw [if_neg c0, if_neg c1, if_neg c2, if_neg c3, if_neg c4, if_neg c5, if_neg c6], I0⟩

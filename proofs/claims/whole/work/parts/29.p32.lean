/-! pure: undo -/
section
variable {σ τ σ' τ' : St} {w h gn kn kE kS tl sn d t1 t2 n B : Nat} {gr sz wo fo tx sk sf st hg li pb : Nat → Nat} {g g' : Gr} {P P' : Nat → Gr} {sh : Nat → Nat → Bool}
theorem m_un24 {kk : St → Option (Int32 × St)} {p : Nat} (hp : p < 10) : ∀ (m N i : Nat) (τ : St), i + m = 152 → τ 1 0 = nI p → ∃ τ', mX12_undo_24 kk (N + m + 1) (nI i) τ = kk τ' ∧ (∀ j, τ' 1 j = if 1 + i ≤ j ∧ j < 153 then τ 1 (j + 152 * (1 + p)) else τ 1 j) ∧ ∀ a j, a ≠ 1 → τ' a j = τ a j
  | 0, N, i, τ, e, h0 => by
    refine ⟨τ, ?_, fun j => by rw [if_neg (by omega)], fun _ _ _ => rfl⟩
    rw [show N + 0 + 1 = N + 1 from rfl, mX12_undo_24, show (152 : Int32) = nI 152 from rfl, if_neg (nI_nlt (by omega) (by omega))]
  | m + 1, N, i, τ, e, h0 => by
    obtain ⟨τ1, e1, e2, e3⟩ := m_un24 (kk := kk) hp m N (i + 1) (s_up τ 1 (1 + i) (τ 1 (1 + 152 * (1 + p) + i))) (by omega) (by rw [su_o (by omega)]; exact h0)
    refine ⟨τ1, ?_, fun j => ?_, fun a j ha => by rw [e3 a j ha, su_o (by omega)]⟩
    · rw [show N + (m + 1) + 1 = (N + m + 1) + 1 from rfl, mX12_undo_24, show (152 : Int32) = nI 152 from rfl, if_pos (nI_lt (by omega) (by omega)), gd_t (by decide), show τ 1 (nx 0) = nI p from h0, li1, nI_add, nI_add, pk_mul, nI_add, nI_add, lt_t, gd_t (ib_nI (by omega) (by decide)), gd_t (ib_nI (by omega) (by decide)), nx_nI (by omega), nx_nI (by omega), lt_t, lt_t, nI_add]
      exact e1
    · rw [e2 j]
      by_cases c : j = 1 + i
      · subst c
        rw [if_neg (by omega), if_pos (by omega), su_s]
        congr 1
        omega
      · by_cases c2 : 1 + (i + 1) ≤ j ∧ j < 153
        · rw [if_pos c2, if_pos (by omega), su_o (by omega)]
        · rw [if_neg c2, if_neg (by omega), su_o (by omega)]
theorem m_undo (mb : MB τ 0 g d P) (hd : d ≤ 10) (h0 : 0 < d) : ∃ τ', mX12_undo τ = some (nI (d - 1), τ') ∧ MB τ' 0 (P (d - 1)) (d - 1) P ∧ (∀ j, 1673 ≤ j → τ' 1 j = τ 1 j) ∧ ∀ a j, a ≠ 1 → τ' a j = τ a j := by
  obtain ⟨m1, m2, m3⟩ := mb
  obtain ⟨τ1, e1, e2, e3⟩ := m_un24 (kk := mX12_undo_66) (p := d - 1) (by omega) 152 19847 0 (s_up τ 1 0 (nI (d - 1))) (by omega) su_s
  have e1' : mX12_undo_24 mX12_undo_66 FU 0 (s_up τ 1 0 (nI (d - 1))) = mX12_undo_66 τ1 := e1
  have z : τ1 1 0 = nI (d - 1) := by rw [e2, if_neg (by omega), su_s]
  refine ⟨τ1, ?_, ⟨z, ?_, fun k hk => ?_⟩, fun j hj => ?_, fun a j ha => by rw [e3 a j ha, su_o (by omega)]⟩
  · unfold mX12_undo
    rw [gd_t (by decide)]
    simp only [show τ 1 (nx 0) = nI d from m1]
    rw [if_neg (nI_nz h0 (by omega)), gd_t (by decide), gd_t (by decide), lt_t, li1, sub_nI h0, show s_up τ 1 (nx 0) (nI (d - 1)) = s_up τ 1 0 (nI (d - 1)) from rfl, e1']
    unfold mX12_undo_66
    rw [gd_t (by decide), show τ1 1 (nx 0) = nI (d - 1) from z]
  · refine (m3 (d - 1) (by omega)).mv (fun i hi => ?_)
    rw [e2, if_pos (by omega), su_o (by omega), show 0 + 1 + i + 152 * (1 + (d - 1)) = 0 + 1 + 152 * (1 + (d - 1)) + i by omega]
  · refine (m3 k (by omega)).mv (fun i hi => ?_)
    rw [e2, if_neg (by omega), su_o (by omega)]
  · rw [e2, if_neg (by omega), su_o (by omega)]
theorem SGg.cg (s : SGg σ w h g) (e : ∀ r, r < 6 → ∀ i, g r i = g' r i) : SGg σ w h g' := by
  have e5 : g 5 = g' 5 := funext (e 5 (by decide))
  refine ⟨by rw [← e5]; exact s.1, fun i hi => ?_⟩
  rw [← e5, ← e 0 (by decide) i, ← e 1 (by decide) i, ← e 2 (by decide) i, ← e 3 (by decide) i, ← e 4 (by decide) i]
  exact s.2 i hi
theorem six {r : Nat} (h : r < 6) : r = 0 ∨ r = 1 ∨ r = 2 ∨ r = 3 ∨ r = 4 ∨ r = 5 := by omega
theorem s_addX {i : Nat} (h30 : i < 30) (a b : Int32) : mX3_addCoins 0 (nI i) a b σ = some (0, s_up (s_up σ 29 i (σ 29 i + a)) 30 i (σ 30 i + b)) := by
  have G : ∀ {α : Type} (o : Option α), gd (ib (nI i) 30) o = o := fun o => gd_t (ib_nI h30 (by decide)) o
  unfold mX3_addCoins
  rw [if_neg (by decide)]
  simp only [G, nx_nI (show i < 2 ^ 31 by omega), lt_t]
  rw [su_o (σ := σ) (by omega)]
theorem s_addY {i : Nat} (h30 : i < 30) (a b : Int32) : mX3_addCoins 1 (nI i) a b σ = some (0, s_up (s_up σ 31 i (σ 31 i + a)) 32 i (σ 32 i + b)) := by
  have G : ∀ {α : Type} (o : Option α), gd (ib (nI i) 30) o = o := fun o => gd_t (ib_nI h30 (by decide)) o
  unfold mX3_addCoins
  rw [if_pos rfl]
  simp only [G, nx_nI (show i < 2 ^ 31 by omega), lt_t]
  rw [su_o (σ := σ) (by omega)]
theorem subn {a b c : Nat} (h : a = b + c) : nI a + -nI c = nI b := by rw [← Int32.sub_eq_add_neg, sub_nI (by omega), h, Nat.add_sub_cancel]
theorem SGg.two {i u v : Nat} (s : SGg σ w h g) (hi : i < w * h) (e0 : ∀ j, g 0 j = g' 0 j) (e5 : ∀ j, g 5 j = g' 5 j) (e3 : ∀ j, g 3 j = g' 3 j) (e4 : ∀ j, g 4 j = g' 4 j) (e1 : ∀ j, j ≠ i → g 1 j = g' 1 j) (e2 : ∀ j, j ≠ i → g 2 j = g' 2 j) (hu : u = g' 1 i) (hv : v = g' 2 i) : SGg (s_up (s_up σ 29 i (nI u)) 30 i (nI v)) w h g' := by
  have f5 : g 5 = g' 5 := funext e5
  refine ⟨by rw [su_o (by omega), su_o (by omega), ← f5]; exact s.1, fun j hj => ?_⟩
  obtain ⟨r1, r2, r3, r4, r5, r6⟩ := s.2 j hj
  refine ⟨by rw [su_o (by omega), su_o (by omega), ← e0]; exact r1, by rw [su_o (by omega), su_o (by omega), ← f5]; exact r2, ?_, ?_, by rw [su_o (by omega), su_o (by omega), ← e3]; exact r5, by rw [su_o (by omega), su_o (by omega), ← e4]; exact r6⟩
  · by_cases c : j = i
    · rw [c, su_o (by omega), su_s, hu]
    · rw [su_o (by omega), su_o (by omega), ← e1 j c]; exact r3
  · by_cases c : j = i
    · rw [c, su_s, hv]
    · rw [su_o (by omega), su_o (by omega), ← e2 j c]; exact r4
theorem SGg.two' {i u v : Nat} (s : SGg σ w h g) (hi : i < w * h) (e0 : ∀ j, g 0 j = g' 0 j) (e5 : ∀ j, g 5 j = g' 5 j) (e1 : ∀ j, g 1 j = g' 1 j) (e2 : ∀ j, g 2 j = g' 2 j) (e3 : ∀ j, j ≠ i → g 3 j = g' 3 j) (e4 : ∀ j, j ≠ i → g 4 j = g' 4 j) (hu : u = g' 3 i) (hv : v = g' 4 i) : SGg (s_up (s_up σ 31 i (nI u)) 32 i (nI v)) w h g' := by
  have f5 : g 5 = g' 5 := funext e5
  refine ⟨by rw [su_o (by omega), su_o (by omega), ← f5]; exact s.1, fun j hj => ?_⟩
  obtain ⟨r1, r2, r3, r4, r5, r6⟩ := s.2 j hj
  refine ⟨by rw [su_o (by omega), su_o (by omega), ← e0]; exact r1, by rw [su_o (by omega), su_o (by omega), ← f5]; exact r2, by rw [su_o (by omega), su_o (by omega), ← e1]; exact r3, by rw [su_o (by omega), su_o (by omega), ← e2]; exact r4, ?_, ?_⟩
  · by_cases c : j = i
    · rw [c, su_o (by omega), su_s, hu]
    · rw [su_o (by omega), su_o (by omega), ← e3 j c]; exact r5
  · by_cases c : j = i
    · rw [c, su_s, hv]
    · rw [su_o (by omega), su_o (by omega), ← e4 j c]; exact r6
theorem xor_back (a b : Nat) : a ^^^ b ^^^ b = a := by rw [Nat.xor_assoc, Nat.xor_self, Nat.xor_zero]
theorem s_takeBack (b : BS σ w h) (sg : SGg σ w h g) (sd : SDe σ w h g d P) (V : GV w h kE kS g) (h30 : w * h ≤ 30) (hd : d ≤ 10) (h0 : 0 < d) : ∃ σ', mX3_takeBack σ = some (nI (d - 1), σ') ∧ SGg σ' w h (P (d - 1)) ∧ SDe σ' w h (P (d - 1)) (d - 1) P ∧ ∀ i j, ¬ (26 ≤ i ∧ i ≤ 32) → σ' i j = σ i j := by
  obtain ⟨d1, d2⟩ := sd
  obtain ⟨kd, at_, wo, a1, a2, a3, u⟩ := d2 (d - 1) (by omega)
  rw [if_pos (by omega)] at u
  obtain ⟨hat, u⟩ := u
  obtain ⟨σ1, hσ1⟩ : ∃ σ1, σ1 = s_up σ 26 1 (nI (d - 1)) := ⟨_, rfl⟩
  have f1 : ∀ i j, ¬ (i = 26 ∧ j = 1) → σ1 i j = σ i j := fun i j hij => by rw [hσ1, su_o (by omega)]
  have z1' : σ1 26 1 = nI (d - 1) := by rw [hσ1, su_s]
  have sg1 : SGg σ1 w h g := sg.fr (fun p q hpq => f1 p q (by omega))
  have fin : ∀ σ', (∀ i j, ¬ (i = 26 ∧ j = 0) → ¬ (27 ≤ i ∧ i ≤ 32) → σ' i j = σ1 i j) → SDe σ' w h (P (d - 1)) (d - 1) P := by
    intro σ' hs
    refine ⟨by rw [hs 26 1 (by omega) (by omega)]; exact z1', fun k hk => ?_⟩
    rw [hs 33 k (by omega) (by omega), hs 34 k (by omega) (by omega), hs 35 k (by omega) (by omega), hs 36 k (by omega) (by omega), f1 33 k (by omega), f1 34 k (by omega), f1 35 k (by omega), f1 36 k (by omega)]
    obtain ⟨kd', at', wo', b1, b2, b3, b4⟩ := d2 k (by omega)
    refine ⟨kd', at', wo', b1, b2, b3, ?_⟩
    rw [if_neg (show ¬ k + 1 = d by omega)] at b4
    by_cases c : k + 1 = d - 1
    · rw [if_pos c, ← c]; exact b4
    · rw [if_neg c]; exact b4
  have st : mX3_takeBack σ = if nI kd = 2 then (bd (mX3_turnPlank (nI at_) (σ 35 (d - 1)) σ1) fun _ s10 => some (s10 26 1, s10)) else if nI kd = 3 then some (nI (d - 1), s_up σ1 27 at_ (nI (g 0 at_) - σ 35 (d - 1))) else if nI kd = 4 then (bd (mX3_addCoins 0 (nI at_) (σ 35 (d - 1)) (nI wo) σ1) fun _ s16 => some (s16 26 1, s16)) else (bd (mX3_addCoins (nI kd) (nI at_) (-σ 35 (d - 1)) (-nI wo) σ1) fun _ s20 => some (s20 26 1, s20)) := by
    have G : ∀ {α : Type} (o : Option α), gd (ib (nI at_) 30) o = o := fun o => gd_t (ib_nI (show at_ < 30 by omega) (by decide)) o
    have G2 : ∀ {α : Type} (o : Option α), gd (ib (nI (d - 1)) 10) o = o := fun o => gd_t (ib_nI (show d - 1 < 10 by omega) (by decide)) o
    unfold mX3_takeBack
    rw [d1, if_neg (show ¬ nI d < 1 from nI_nlt (b := 1) h0 (by omega)), li1, sub_nI h0, lt_t, ← hσ1]
    simp only [z1', G2, nx_nI (show d - 1 < 2 ^ 31 by omega), lt_t, f1 33 (d - 1) (by omega), f1 34 (d - 1) (by omega), f1 35 (d - 1) (by omega), f1 36 (d - 1) (by omega), a1, a2, a3, G, nx_nI (show at_ < 2 ^ 31 by omega), (sg1.2 at_ hat).1]
    rw [show s_up σ1 27 at_ (nI (g 0 at_) - σ 35 (d - 1)) 26 1 = nI (d - 1) from by rw [su_o (by omega)]; exact z1']
  obtain ⟨r1, r2, r3, r4, r5, r6⟩ := sg1.2 at_ hat
  rw [st]
  rcases u with ⟨rfl, um, u0, u1, u2, u3, u4, u5⟩ | ⟨rfl, um, u0, u1, u2, u3, u4, u5⟩ | ⟨rfl, ⟨v, hv, um, he, u5⟩, u0, u1, u2, u3, u4⟩ | ⟨rfl, um, u1, u2, u3, u4, u5⟩ | ⟨rfl, um, uw, u0, u1, u2, u3, u4, u5⟩
  · have x1 := u1 at_
    have x2 := u2 at_
    rw [if_pos rfl] at x1 x2
    have n1 : nI (g 1 at_) + -(1 : Int32) = nI (P (d - 1) 1 at_) := subn x1
    refine ⟨s_up (s_up σ1 29 at_ (nI (P (d - 1) 1 at_))) 30 at_ (nI (P (d - 1) 2 at_)), ?_, sg1.two hat u0 u5 u3 u4 (fun j hj => by rw [u1 j, if_neg hj]; rfl) (fun j hj => by rw [u2 j, if_neg hj]; rfl) rfl rfl, fin _ (fun i j h1 h2 => by rw [su_o (by omega), su_o (by omega)]), fun i j hij => by rw [su_o (by omega), su_o (by omega), f1 i j (by omega)]⟩
    rw [if_neg (by decide), if_neg (by decide), if_neg (by decide), show nI 0 = 0 from rfl, s_addX (by omega), bd_t, r3, r4, um, n1, subn x2, su_o (by omega), su_o (by omega), z1']
  · have x1 := u3 at_
    have x2 := u4 at_
    rw [if_pos rfl] at x1 x2
    have n1 : nI (g 3 at_) + -(1 : Int32) = nI (P (d - 1) 3 at_) := subn x1
    refine ⟨s_up (s_up σ1 31 at_ (nI (P (d - 1) 3 at_))) 32 at_ (nI (P (d - 1) 4 at_)), ?_, sg1.two' hat u0 u5 u1 u2 (fun j hj => by rw [u3 j, if_neg hj]; rfl) (fun j hj => by rw [u4 j, if_neg hj]; rfl) rfl rfl, fin _ (fun i j h1 h2 => by rw [su_o (by omega), su_o (by omega)]), fun i j hij => by rw [su_o (by omega), su_o (by omega), f1 i j (by omega)]⟩
    rw [if_neg (by decide), if_neg (by decide), if_neg (by decide), show nI 1 = 1 from rfl, s_addY (by omega), bd_t, r5, r6, um, n1, subn x2, su_o (by omega), su_o (by omega), z1']
  · obtain ⟨σ2, e1, e2, e3⟩ := s_turn (σ := σ1) (fun i hi v hv => by rw [f1 14 _ (by omega)]; exact b i hi v hv) sg1 V.2.1 h30 hat hv he
    refine ⟨σ2, ?_, e2.cg (fun r hr i => ?_), fin _ (fun i j h1 h2 => e3 i j h1 (by omega)), fun i j hij => by rw [e3 i j (by omega) (by omega), f1 i j (by omega)]⟩
    · rw [if_pos (show nI 2 = 2 from rfl), um, e1, bd_t, e3 26 1 (by omega) (by omega), z1']
    · rcases six hr with rfl | rfl | rfl | rfl | rfl | rfl
      · exact u0 i
      · exact u1 i
      · exact u2 i
      · exact u3 i
      · exact u4 i
      · show tog (g 5) (sid w at_ v) i = _
        unfold tog
        rw [u5 i]
        by_cases c : i = sid w at_ v / 2
        · rw [if_pos c, if_pos c, xor_back]
        · rw [if_neg c, if_neg c]
  · have hx : nI (g 0 at_) - σ 35 (d - 1) = nI (P (d - 1) 0 at_) := by
      rcases um with ⟨um, uh⟩ | ⟨um, uh⟩
      · have := uh at_
        rw [if_pos rfl] at this
        rw [um, li1, sub_nI (by omega)]
        congr 1
        omega
      · have := uh at_
        rw [if_pos rfl] at this
        rw [um, this, show nI (g 0 at_) - -1 = nI (g 0 at_) + 1 by rw [Int32.sub_eq_add_neg, Int32.neg_neg], li1, nI_add]
    refine ⟨s_up σ1 27 at_ (nI (P (d - 1) 0 at_)), ?_, ⟨?_, fun j hj => ?_⟩, fin _ (fun i j h1 h2 => by rw [su_o (by omega)]), fun i j hij => by rw [su_o (by omega), f1 i j (by omega)]⟩
    · rw [if_neg (by decide), if_pos (show nI 3 = 3 from rfl), hx]
    · have f5 : g 5 = P (d - 1) 5 := funext u5
      rw [su_o (by omega), ← f5]; exact sg1.1
    · have f5 : g 5 = P (d - 1) 5 := funext u5
      obtain ⟨q1, q2, q3, q4, q5, q6⟩ := sg1.2 j hj
      refine ⟨?_, by rw [su_o (by omega), ← f5]; exact q2, by rw [su_o (by omega), ← u1]; exact q3, by rw [su_o (by omega), ← u2]; exact q4, by rw [su_o (by omega), ← u3]; exact q5, by rw [su_o (by omega), ← u4]; exact q6⟩
      by_cases c : j = at_
      · rw [c, su_s]
      · rw [su_o (by omega), q1]
        congr 1
        rcases um with ⟨um, uh⟩ | ⟨um, uh⟩
        · have := uh j; rw [if_neg c] at this; exact this
        · have := uh j; rw [if_neg c] at this; exact this.symm
  · have x1 := u1 at_
    have x2 := u2 at_
    rw [if_pos rfl] at x1 x2
    refine ⟨s_up (s_up σ1 29 at_ (nI (P (d - 1) 1 at_))) 30 at_ (nI (P (d - 1) 2 at_)), ?_, sg1.two hat u0 u5 u3 u4 (fun j hj => by rw [u1 j, if_neg hj]) (fun j hj => by rw [u2 j, if_neg hj]) rfl rfl, fin _ (fun i j h1 h2 => by rw [su_o (by omega), su_o (by omega)]), fun i j hij => by rw [su_o (by omega), su_o (by omega), f1 i j (by omega)]⟩
    rw [if_neg (by decide), if_neg (by decide), if_pos (show nI 4 = 4 from rfl), s_addX (by omega), bd_t, r3, r4, um, uw, x1, x2, nI_add, nI_add, su_o (by omega), su_o (by omega), z1', Nat.zero_add, Nat.zero_add]
end
theorem sm_undo : Sm0 Inv mX11_undo mX12_undo := by
  intro σ τ I
  have I0 := I
  obtain ⟨w, h, gn, kn, kE, kS, gr, sz, wo, fo, tl, tx, sn, sk, sf, st, g, d, P, cv, im, is, ig, img, t1, t2⟩ := I
  have X := SX.of cv is ig.1 ig.2.2.1
  have h30 := X.1.1
  obtain ⟨sg, sd⟩ := ig.1.split
  have hd := ig.2.2.2.1
  unfold mX11_undo
  by_cases c : d = 0
  · subst c
    unfold mX12_undo
    rw [sd.1, if_pos (by decide), gd_t (by decide)]
    simp only [show τ 1 (nx 0) = nI 0 from ig.2.1.1]
    rw [if_pos (show nI 0 = 0 from rfl)]
    exact ⟨_, σ, τ, rfl, rfl, I0⟩
  · obtain ⟨σ1, a1, a2, a3, a4⟩ := s_takeBack (BS.of is) sg sd ig.2.2.1 h30 hd (by omega)
    obtain ⟨τ1, b1, b2, b3, b4⟩ := m_undo ig.2.1 hd (by omega)
    rw [sd.1, if_neg (show ¬ nI d < 1 from nI_nlt (b := 1) (by omega) (by omega)), a1, bd_t, b1]
    refine ⟨_, σ1, τ1, rfl, rfl, ?_⟩
    exact Inv.nw cv im is img t1 t2 (fun p q hpq => a4 p q (by omega)) (fun p q h1 h2 => b4 p q h1) b3 ⟨SGo.join a2 a3, b2, ig.2.2.2.2 (d - 1) (by omega), by omega, fun k hk => ig.2.2.2.2 k (by omega)⟩

/-! pure: what a call leaves alone; the plain calls -/
theorem su_s {σ : St} {i k : Nat} {v : Int32} : s_up σ i k v i k = v := by simp [s_up]
theorem su_o {σ : St} {a k i j : Nat} {v : Int32} (h : i ≠ a ∨ j ≠ k) : s_up σ a k v i j = σ i j := by
  unfold s_up
  by_cases h1 : i = a
  · subst h1; rw [if_pos rfl, if_neg (by omega)]
  · rw [if_neg h1]
theorem IG.fr {σ τ σ' τ' : St} {b B w h kE kS : Nat} {g : Gr} {d : Nat} {P : Nat → Gr} (I : IG σ τ b B w h kE kS g d P) (hb : 26 ≤ b) (hb2 : b + 10 ≤ 58) (hs : ∀ i j, 26 ≤ i → i ≤ 58 → σ' i j = σ i j) (ht : ∀ j, τ' 1 j = τ 1 j) : IG σ' τ' b B w h kE kS g d P := by
  obtain ⟨⟨s1, s2, s3, s4⟩, ⟨m1, m2, m3⟩, rest⟩ := I
  refine ⟨⟨?_, ?_, fun i hi => ?_, fun k hk => ?_⟩, ⟨?_, fun i hi => ?_, fun k hk i hi => ?_⟩, rest⟩
  · rw [hs _ _ (by omega) (by omega)]; exact s1
  · rw [hs _ _ (by omega) (by omega)]; exact s2
  · rw [hs _ _ (by omega) (by omega), hs _ _ (by omega) (by omega), hs _ _ (by omega) (by omega), hs _ _ (by omega) (by omega), hs _ _ (by omega) (by omega), hs _ _ (by omega) (by omega)]; exact s3 i hi
  · rw [hs (b + 9) _ (by omega) (by omega)]
    obtain ⟨kd, at_, wo, a1, a2, a3, a4⟩ := s4 k hk
    exact ⟨kd, at_, wo, by rw [hs _ _ (by omega) (by omega)]; exact a1, by rw [hs _ _ (by omega) (by omega)]; exact a2, by rw [hs _ _ (by omega) (by omega)]; exact a3, a4⟩
  · rw [ht]; exact m1
  · rw [ht, ht, ht, ht, ht]; exact m2 i hi
  · rw [ht, ht, ht, ht, ht]; exact m3 k hk i hi
/-- the images' part of the invariant -/
def IMG (σ τ : St) (w h kE kS : Nat) : Prop := ∀ im, im < 2 → ∃ kp : Bool, σ 2 im = z1 kp ∧ τ 2 im = z1 kp ∧ (kp = true → ∃ (g' : Gr) (d' : Nat) (P' : Nat → Gr), IG σ τ (37 + 11 * im) (1673 * (1 + im)) w h kE kS g' d' P')
theorem IMG.fr {σ τ σ' τ' : St} {w h kE kS : Nat} (I : IMG σ τ w h kE kS) (hs : ∀ i j, 26 ≤ i → i ≤ 58 → σ' i j = σ i j) (ht : ∀ j, τ' 1 j = τ 1 j) (h2 : ∀ j, σ' 2 j = σ 2 j) (t2 : ∀ j, τ' 2 j = τ 2 j) : IMG σ' τ' w h kE kS := by
  intro im him
  obtain ⟨kp, a1, a2, a3⟩ := I im him
  refine ⟨kp, by rw [h2]; exact a1, by rw [t2]; exact a2, fun hk => ?_⟩
  obtain ⟨g', d', P', ig⟩ := a3 hk
  exact ⟨g', d', P', ig.fr (by omega) (by omega) hs ht⟩
section
variable {σ τ σ' τ' : St} {w h gn kn kE kS tl sn : Nat} {gr sz wo fo tx sk sf st : Nat → Nat}
/-- which numbers of the class's state matter -/
def rS (i : Nat) : Prop := i ≤ 2 ∨ (4 ≤ i ∧ i ≤ 6) ∨ (10 ≤ i ∧ i ≤ 17) ∨ (26 ≤ i ∧ i ≤ 58)
def rM (i j : Nat) : Prop := (1 ≤ i ∧ i ≤ 3) ∨ (5 ≤ i ∧ i ≤ 10) ∨ (i = 0 ∧ (j ≤ 16 ∨ j = 30 ∨ j = 31 ∨ 35 ≤ j))
theorem IS.fr (I : IS σ w h gn kn kE kS gr sz wo fo tl tx sn sk sf st) (hs : ∀ i j, rS i → σ' i j = σ i j) : IS σ' w h gn kn kE kS gr sz wo fo tl tx sn sk sf st := by
  obtain ⟨a1, a2, a3, a4, a5, a6, a7, a8, a9, a10, a11⟩ := I
  have r0 : rS 0 := by unfold rS; omega
  have r1 : rS 1 := by unfold rS; omega
  have r4 : rS 4 := by unfold rS; omega
  have r5 : rS 5 := by unfold rS; omega
  have r6 : rS 6 := by unfold rS; omega
  have r10 : rS 10 := by unfold rS; omega
  have r12 : rS 12 := by unfold rS; omega
  have r13 : rS 13 := by unfold rS; omega
  have r14 : rS 14 := by unfold rS; omega
  have r15 : rS 15 := by unfold rS; omega
  have r16 : rS 16 := by unfold rS; omega
  have r17 : rS 17 := by unfold rS; omega
  refine ⟨by rw [hs _ _ r0]; exact a1, fun j hj => by rw [hs _ _ r1]; exact a2 j hj, by rw [hs _ _ r10]; exact a3, by rw [hs _ _ r10]; exact a4, by rw [hs _ _ r10]; exact a5, by rw [hs _ _ r10]; exact a6, by rw [hs _ _ r10]; exact a7, by rw [hs _ _ r0]; exact a8, fun i hi => ?_, fun k hk => ?_, fun k hk => ?_⟩
  · obtain ⟨b1, b2, b3⟩ := a9 i hi
    exact ⟨by rw [hs _ _ r12]; exact b1, by rw [hs _ _ r13]; exact b2, fun v hv => by rw [hs _ _ r14]; exact b3 v hv⟩
  · rw [hs _ _ r15, hs _ _ r16, hs _ _ r17]; exact a10 k hk
  · rw [hs _ _ r4, hs _ _ r5, hs _ _ r6]; exact a11 k hk
theorem IM.fr (I : IM τ w h gn kn kE kS gr sz wo fo tl tx sn sk sf st) (ht : ∀ i j, rM i j → τ' i j = τ i j) : IM τ' w h gn kn kE kS gr sz wo fo tl tx sn sk sf st := by
  obtain ⟨a1, a2, a3, a4, a5, a6, a7, a8, a9, a10, a11, a12, a13, a14⟩ := I
  refine ⟨by rw [ht _ _ (by unfold rM; omega)]; exact a1, fun j hj => by rw [ht _ _ (by unfold rM; omega)]; exact a2 j hj, by rw [ht _ _ (by unfold rM; omega)]; exact a3, by rw [ht _ _ (by unfold rM; omega)]; exact a4, by rw [ht _ _ (by unfold rM; omega)]; exact a5, by rw [ht _ _ (by unfold rM; omega)]; exact a6, by rw [ht _ _ (by unfold rM; omega)]; exact a7, by rw [ht _ _ (by unfold rM; omega)]; exact a8, by rw [ht _ _ (by unfold rM; omega)]; exact a9, fun i hi => by rw [ht _ _ (by unfold rM; omega)]; exact a10 i hi, fun k hk => ?_, by rw [ht _ _ (by unfold rM; omega)]; exact a12, by rw [ht _ _ (by unfold rM; omega)]; exact a13, fun k hk => ?_⟩
  · rw [ht _ _ (by unfold rM; omega), ht _ _ (by unfold rM; omega), ht _ _ (by unfold rM; omega)]; exact a11 k hk
  · rw [ht _ _ (by unfold rM; omega), ht _ _ (by unfold rM; omega), ht _ _ (by unfold rM; omega)]; exact a14 k hk
/-- what doesn't matter may change -/
theorem Inv.fr (I : Inv σ τ) (hs : ∀ i j, rS i → σ' i j = σ i j) (ht : ∀ i j, rM i j → τ' i j = τ i j) : Inv σ' τ' := by
  obtain ⟨w, h, gn, kn, kE, kS, gr, sz, wo, fo, tl, tx, sn, sk, sf, st, g, d, P, cv, im, is, ig, img, t1, t2⟩ := I
  have hg : ∀ i j, 26 ≤ i → i ≤ 58 → σ' i j = σ i j := fun i j h1 h2 => hs i j (by unfold rS; omega)
  have ht1 : ∀ j, τ' 1 j = τ 1 j := fun j => ht 1 j (by unfold rM; omega)
  refine ⟨w, h, gn, kn, kE, kS, gr, sz, wo, fo, tl, tx, sn, sk, sf, st, g, d, P, cv, im.fr ht, is.fr hs, ig.fr (by omega) (by omega) hg ht1, IMG.fr img hg ht1 (fun j => hs 2 j (by unfold rS; omega)) (fun j => ht 2 j (by unfold rM; omega)), ?_, ?_⟩
  · rw [hs 0 _ (by unfold rS; omega), ht 0 _ (by unfold rM; omega)]; exact t1
  · rw [hs 0 _ (by unfold rS; omega), ht 0 _ (by unfold rM; omega)]; exact t2
end
theorem sm_trace : Sml Inv mX11_trace mX12_trace := by
  intro σ τ I
  refine ⟨_, σ, τ, rfl, ?_, I⟩
  obtain ⟨w, h, gn, kn, kE, kS, gr, sz, wo, fo, tl, tx, sn, sk, sf, st, g, d, P, cv, im, is, ig, img, t1, t2⟩ := I
  unfold mX12_trace
  rw [t1, t2]
theorem sm_count : Sm1 Inv mX11_count mX12_count := by
  intro a σ τ I
  have I0 := I
  obtain ⟨w, h, gn, kn, kE, kS, gr, sz, wo, fo, tl, tx, sn, sk, sf, st, g, d, P, cv, im, is, ig, img, t1, t2⟩ := I
  obtain ⟨a1, a2, a3, a4, a5, a6, a7, a8, a9, a10, a11, a12, a13, a14⟩ := im
  obtain ⟨b1, b2, b3, b4, b5, b6, b7, b8, b9, b10, b11⟩ := is
  obtain ⟨⟨s1, s2, s3, s4⟩, ⟨m1, m2, m3⟩, rest⟩ := ig
  have hib : ib 0 5019 := by decide
  have h0 : τ 1 (nx (0 : Int32)) = nI d := m1
  unfold mX11_count mX12_count
  rw [b3, b4, b6, b7, b8, b1, s2, a1, a3, a4, a5, a6, a7, h0]
  by_cases c0 : a = 0
  · exact ⟨_, σ, τ, by rw [if_pos c0], by rw [if_pos c0], I0⟩
  by_cases c1 : a = 1
  · exact ⟨_, σ, τ, by rw [if_neg c0, if_pos c1], by rw [if_neg c0, if_pos c1], I0⟩
  by_cases c2 : a = 2
  · exact ⟨_, σ, τ, by rw [if_neg c0, if_neg c1, if_pos c2], by rw [if_neg c0, if_neg c1, if_pos c2], I0⟩
  by_cases c3 : a = 3
  · exact ⟨_, σ, τ, by rw [if_neg c0, if_neg c1, if_neg c2, if_pos c3], by rw [if_neg c0, if_neg c1, if_neg c2, if_pos c3], I0⟩
  by_cases c4 : a = 4
  · exact ⟨_, σ, τ, by rw [if_neg c0, if_neg c1, if_neg c2, if_neg c3, if_pos c4], by rw [if_neg c0, if_neg c1, if_neg c2, if_neg c3, if_pos c4], I0⟩
  by_cases c5 : a = 5
  · exact ⟨_, σ, τ, by rw [if_neg c0, if_neg c1, if_neg c2, if_neg c3, if_neg c4, if_pos c5], by rw [if_neg c0, if_neg c1, if_neg c2, if_neg c3, if_neg c4, if_pos c5, gd_t hib], I0⟩
  by_cases c6 : a = 6
  · exact ⟨_, σ, τ, by rw [if_neg c0, if_neg c1, if_neg c2, if_neg c3, if_neg c4, if_neg c5, if_pos c6], by rw [if_neg c0, if_neg c1, if_neg c2, if_neg c3, if_neg c4, if_neg c5, if_pos c6], I0⟩
  · exact ⟨_, σ, τ, by rw [if_neg c0, if_neg c1, if_neg c2, if_neg c3, if_neg c4, if_neg c5, if_neg c6], by rw [if_neg c0, if_neg c1, if_neg c2, if_neg c3, if_neg c4, if_neg c5, if_neg c6], I0⟩
theorem sm_clear : Sm0 Inv mX11_clear mX12_clear := by
  intro σ τ ⟨w, h, gn, kn, kE, kS, gr, sz, wo, fo, tl, tx, sn, sk, sf, st, g, d, P, cv, im, is, ig, img, t1, t2⟩
  refine ⟨nI tl, s_up σ 0 1 0, s_up τ 0 3 0, by unfold mX11_clear; rw [is.1]; rfl, by unfold mX12_clear; rw [im.1]; rfl, ?_⟩
  have hg : ∀ i j, 26 ≤ i → i ≤ 58 → s_up σ 0 1 0 i j = σ i j := fun i j h1 h2 => su_o (by omega)
  have ht1 : ∀ j, s_up τ 0 3 0 1 j = τ 1 j := fun j => su_o (by omega)
  refine ⟨w, h, gn, kn, kE, kS, gr, sz, wo, fo, 0, tx, sn, sk, sf, st, g, d, P, ?_, ?_, ?_, ig.fr (by omega) (by omega) hg ht1, IMG.fr img hg ht1 (fun j => su_o (by omega)) (fun j => su_o (by omega)), ?_, ?_⟩
  · obtain ⟨c1, c2, c3, c4, c5, c6, c7, c8, c9, c10⟩ := cv
    exact ⟨c1, c2, c3, c4, c5, c6, c7, by omega, fun j hj => absurd hj (Nat.not_lt_zero j), c10⟩
  · obtain ⟨a1, a2, a3, a4, a5, a6, a7, a8, a9, a10, a11, a12, a13, a14⟩ := im
    refine ⟨su_s, fun j hj => absurd hj (Nat.not_lt_zero j), ?_, ?_, ?_, ?_, ?_, ?_, ?_, fun i hi => ?_, fun k hk => ?_, ?_, ?_, fun k hk => ?_⟩
    all_goals (try rw [su_o (by omega)]); (try rw [su_o (by omega)]); (try rw [su_o (by omega)])
    · exact a3
    · exact a4
    · exact a5
    · exact a6
    · exact a7
    · exact a8
    · exact a9
    · exact a10 i hi
    · exact a11 k hk
    · exact a12
    · exact a13
    · exact a14 k hk
  · obtain ⟨b1, b2, b3, b4, b5, b6, b7, b8, b9, b10, b11⟩ := is
    refine ⟨su_s, fun j hj => absurd hj (Nat.not_lt_zero j), ?_, ?_, ?_, ?_, ?_, ?_, fun i hi => ⟨?_, ?_, fun v hv => ?_⟩, fun k hk => ?_, fun k hk => ?_⟩
    all_goals (try rw [su_o (by omega)]); (try rw [su_o (by omega)]); (try rw [su_o (by omega)])
    · exact b3
    · exact b4
    · exact b5
    · exact b6
    · exact b7
    · exact b8
    · exact (b9 i hi).1
    · exact (b9 i hi).2.1
    · exact (b9 i hi).2.2 v hv
    · exact b10 k hk
    · exact b11 k hk
  · rw [su_o (by omega), su_o (by omega)]; exact t1
  · rw [su_o (by omega), su_o (by omega)]; exact t2

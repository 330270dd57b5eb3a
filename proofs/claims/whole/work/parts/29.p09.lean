/-! pure: kinds, cells and pairs that are asked for; type, forget, kind -/
section
variable {σ τ σ' τ' : St} {w h gn kn kE kS tl sn tl' sn' : Nat} {gr sz wo fo tx sk sf st tx' sk' sf' st' : Nat → Nat}
theorem IS.txt (I : IS σ w h gn kn kE kS gr sz wo fo tl tx sn sk sf st) (hs : ∀ i j, i ≠ 1 → ¬ (i = 0 ∧ j = 1) → σ' i j = σ i j) (h1 : σ' 0 1 = nI tl') (h2 : ∀ j, j < tl' → σ' 1 j = nI (tx' j)) : IS σ' w h gn kn kE kS gr sz wo fo tl' tx' sn sk sf st := by
  obtain ⟨b1, b2, b3, b4, b5, b6, b7, b8, b9, b10, b11⟩ := I
  refine ⟨h1, h2, ?_, ?_, ?_, ?_, ?_, ?_, fun i hi => ⟨?_, ?_, fun v hv => ?_⟩, fun k hk => ?_, fun k hk => ?_⟩
  · rw [hs _ _ (by omega) (by omega)]; exact b3
  · rw [hs _ _ (by omega) (by omega)]; exact b4
  · rw [hs _ _ (by omega) (by omega)]; exact b5
  · rw [hs _ _ (by omega) (by omega)]; exact b6
  · rw [hs _ _ (by omega) (by omega)]; exact b7
  · rw [hs _ _ (by omega) (by omega)]; exact b8
  · rw [hs _ _ (by omega) (by omega)]; exact (b9 i hi).1
  · rw [hs _ _ (by omega) (by omega)]; exact (b9 i hi).2.1
  · rw [hs _ _ (by omega) (by omega)]; exact (b9 i hi).2.2 v hv
  · rw [hs _ _ (by omega) (by omega), hs _ _ (by omega) (by omega), hs _ _ (by omega) (by omega)]; exact b10 k hk
  · rw [hs _ _ (by omega) (by omega), hs _ _ (by omega) (by omega), hs _ _ (by omega) (by omega)]; exact b11 k hk
theorem IM.txt (I : IM τ w h gn kn kE kS gr sz wo fo tl tx sn sk sf st) (ht : ∀ i j, i ≠ 3 → ¬ (i = 0 ∧ j = 3) → τ' i j = τ i j) (h1 : τ' 0 3 = nI tl') (h2 : ∀ j, j < tl' → τ' 3 j = nI (tx' j)) : IM τ' w h gn kn kE kS gr sz wo fo tl' tx' sn sk sf st := by
  obtain ⟨a1, a2, a3, a4, a5, a6, a7, a8, a9, a10, a11, a12, a13, a14⟩ := I
  refine ⟨h1, h2, ?_, ?_, ?_, ?_, ?_, ?_, ?_, fun i hi => ?_, fun k hk => ?_, ?_, ?_, fun k hk => ?_⟩
  · rw [ht _ _ (by omega) (by omega)]; exact a3
  · rw [ht _ _ (by omega) (by omega)]; exact a4
  · rw [ht _ _ (by omega) (by omega)]; exact a5
  · rw [ht _ _ (by omega) (by omega)]; exact a6
  · rw [ht _ _ (by omega) (by omega)]; exact a7
  · rw [ht _ _ (by omega) (by omega)]; exact a8
  · rw [ht _ _ (by omega) (by omega)]; exact a9
  · rw [ht _ _ (by omega) (by omega)]; exact a10 i hi
  · rw [ht _ _ (by omega) (by omega), ht _ _ (by omega) (by omega), ht _ _ (by omega) (by omega)]; exact a11 k hk
  · rw [ht _ _ (by omega) (by omega)]; exact a12
  · rw [ht _ _ (by omega) (by omega)]; exact a13
  · rw [ht _ _ (by omega) (by omega), ht _ _ (by omega) (by omega), ht _ _ (by omega) (by omega)]; exact a14 k hk
theorem IS.seen (I : IS σ w h gn kn kE kS gr sz wo fo tl tx sn sk sf st) (hs : ∀ i j, ¬ (4 ≤ i ∧ i ≤ 6) → ¬ (i = 0 ∧ j = 15) → σ' i j = σ i j) (h1 : σ' 0 15 = nI sn') (h2 : ∀ k, k < sn' → σ' 4 k = nI (sk' k) ∧ σ' 5 k = nI (sf' k) ∧ σ' 6 k = nI (st' k)) : IS σ' w h gn kn kE kS gr sz wo fo tl tx sn' sk' sf' st' := by
  obtain ⟨b1, b2, b3, b4, b5, b6, b7, b8, b9, b10, b11⟩ := I
  refine ⟨?_, fun j hj => ?_, ?_, ?_, ?_, ?_, ?_, h1, fun i hi => ⟨?_, ?_, fun v hv => ?_⟩, fun k hk => ?_, h2⟩
  · rw [hs _ _ (by omega) (by omega)]; exact b1
  · rw [hs _ _ (by omega) (by omega)]; exact b2 j hj
  · rw [hs _ _ (by omega) (by omega)]; exact b3
  · rw [hs _ _ (by omega) (by omega)]; exact b4
  · rw [hs _ _ (by omega) (by omega)]; exact b5
  · rw [hs _ _ (by omega) (by omega)]; exact b6
  · rw [hs _ _ (by omega) (by omega)]; exact b7
  · rw [hs _ _ (by omega) (by omega)]; exact (b9 i hi).1
  · rw [hs _ _ (by omega) (by omega)]; exact (b9 i hi).2.1
  · rw [hs _ _ (by omega) (by omega)]; exact (b9 i hi).2.2 v hv
  · rw [hs _ _ (by omega) (by omega), hs _ _ (by omega) (by omega), hs _ _ (by omega) (by omega)]; exact b10 k hk
theorem IM.seen (I : IM τ w h gn kn kE kS gr sz wo fo tl tx sn sk sf st) (ht : ∀ i j, i ≠ 10 → ¬ (i = 0 ∧ j = 15) → τ' i j = τ i j) (h1 : τ' 0 15 = nI sn') (h2 : ∀ k, k < sn' → τ' 10 (3 * k) = nI (sk' k) ∧ τ' 10 (3 * k + 1) = nI (sf' k) ∧ τ' 10 (3 * k + 2) = nI (st' k)) : IM τ' w h gn kn kE kS gr sz wo fo tl tx sn' sk' sf' st' := by
  obtain ⟨a1, a2, a3, a4, a5, a6, a7, a8, a9, a10, a11, a12, a13, a14⟩ := I
  refine ⟨?_, fun j hj => ?_, ?_, ?_, ?_, ?_, h1, ?_, ?_, fun i hi => ?_, fun k hk => ?_, ?_, ?_, h2⟩
  · rw [ht _ _ (by omega) (by omega)]; exact a1
  · rw [ht _ _ (by omega) (by omega)]; exact a2 j hj
  · rw [ht _ _ (by omega) (by omega)]; exact a3
  · rw [ht _ _ (by omega) (by omega)]; exact a4
  · rw [ht _ _ (by omega) (by omega)]; exact a5
  · rw [ht _ _ (by omega) (by omega)]; exact a6
  · rw [ht _ _ (by omega) (by omega)]; exact a8
  · rw [ht _ _ (by omega) (by omega)]; exact a9
  · rw [ht _ _ (by omega) (by omega)]; exact a10 i hi
  · rw [ht _ _ (by omega) (by omega), ht _ _ (by omega) (by omega), ht _ _ (by omega) (by omega)]; exact a11 k hk
  · rw [ht _ _ (by omega) (by omega)]; exact a12
  · rw [ht _ _ (by omega) (by omega)]; exact a13
/-- a kind that is, one that isn't -/
theorem m_isKind (hk : τ 0 10 = nI kn) (hn : kn ≤ 5) (v : Int32) : mX12_isKind v τ = some (z1 (decide (¬ v < 0 ∧ ¬ (nI kn - 1 < v))), τ) := by
  unfold mX12_isKind
  rw [hk, l0_i, m_in, bd_t, gd_t (zb_z1 _)]
theorem kind_or (kn : Nat) (hn : kn ≤ 5) (v : Int32) : (∃ k, k < kn ∧ v = nI k) ∨ ¬ ∃ k, k < kn ∧ v = nI k := Classical.em _
theorem m_isKind_t (hk : τ 0 10 = nI kn) (hn : kn ≤ 5) {k : Nat} (h : k < kn) : mX12_isKind (nI k) τ = some (1, τ) := by
  rw [m_isKind hk hn, decide_eq_true ((nlt_pred (by omega)).mpr ⟨k, h, rfl⟩)]
  rfl
theorem m_isKind_f (hk : τ 0 10 = nI kn) (hn : kn ≤ 5) {v : Int32} (h : ¬ ∃ k, k < kn ∧ v = nI k) : mX12_isKind v τ = some (0, τ) := by
  rw [m_isKind hk hn, decide_eq_false (fun q => h ((nlt_pred (by omega)).mp q))]
  rfl
theorem lt_or {w : Nat} {v : Int32} (hw : w < 2 ^ 30) (h : ¬ ∃ k, k < w ∧ v = nI k) : v < 0 ∨ ¬ v < nI w := by
  rcases pk_ix v (n := w) (by omega) with h1 | h1 | h1
  · exact Or.inl h1
  · exact Or.inr (i_nlt.mpr h1)
  · exact absurd h1 h
theorem s_isKind_t (hk : σ 10 4 = nI kn) (hn : kn ≤ 5) {k : Nat} (h : k < kn) : mX11_isKind (nI k) σ = some (1, σ) := by
  unfold mX11_isKind
  rw [hk, if_neg (nI_pos (by omega)), if_pos (nI_lt h (by omega))]
theorem s_isKind_f (hk : σ 10 4 = nI kn) (hn : kn ≤ 5) {v : Int32} (h : ¬ ∃ k, k < kn ∧ v = nI k) : mX11_isKind v σ = some (0, σ) := by
  unfold mX11_isKind
  rw [hk]
  rcases lt_or (by omega) h with h1 | h1
  · rw [if_pos h1]
  · rw [if_neg h1]; split <;> rfl
/-- a cell that is, one that isn't -/
theorem m_isCell_t (hW : τ 0 4 = nI w) (hH : τ 0 5 = nI h) (w2 : w ≤ 6) (h2 : h ≤ 5) {x y : Nat} (hx : x < w) (hy : y < h) : mX12_isCell (nI x) (nI y) τ = some (1, τ) := by
  unfold mX12_isCell
  rw [hW, l0_i, m_in, bd_t, decide_eq_true ((nlt_pred (by omega)).mpr ⟨x, hx, rfl⟩), if_neg (by decide), hH, m_in, bd_t, decide_eq_true ((nlt_pred (by omega)).mpr ⟨y, hy, rfl⟩), if_neg (by decide)]
theorem m_isCell_f (hW : τ 0 4 = nI w) (hH : τ 0 5 = nI h) (w2 : w ≤ 6) (h2 : h ≤ 5) {x y : Int32} (hc : ¬ ((∃ a, a < w ∧ x = nI a) ∧ ∃ b, b < h ∧ y = nI b)) : mX12_isCell x y τ = some (0, τ) := by
  unfold mX12_isCell
  rw [hW, l0_i, m_in, bd_t]
  by_cases c1 : ∃ a, a < w ∧ x = nI a
  · rw [decide_eq_true ((nlt_pred (by omega)).mpr c1), if_neg (by decide), hH, m_in, bd_t, decide_eq_false (fun q => hc ⟨c1, (nlt_pred (by omega)).mp q⟩), if_pos z1_f]
  · rw [decide_eq_false (fun q => c1 ((nlt_pred (by omega)).mp q)), if_pos z1_f]
theorem s_cellAt_t {u : Nat} (hW : σ u 0 = nI w) (hH : σ u 1 = nI h) (w2 : w ≤ 6) (h2 : h ≤ 5) {x y : Nat} (hx : x < w) (hy : y < h) : mX2_cellAt u (nI x) (nI y) σ = some (nI (w * y + x), σ) := by
  unfold mX2_cellAt
  rw [hW, hH, if_neg (nI_pos (by omega)), if_pos (nI_lt hx (by omega)), if_neg (nI_pos (by omega)), if_pos (nI_lt hy (by omega)), pk_mul, nI_add]
theorem s_cellAt_f {u : Nat} (hW : σ u 0 = nI w) (hH : σ u 1 = nI h) (w2 : w ≤ 6) (h2 : h ≤ 5) {x y : Int32} (hc : ¬ ((∃ a, a < w ∧ x = nI a) ∧ ∃ b, b < h ∧ y = nI b)) : mX2_cellAt u x y σ = some (-1, σ) := by
  unfold mX2_cellAt
  rw [hW, hH]
  by_cases c1 : ∃ a, a < w ∧ x = nI a
  · obtain ⟨a, ha, rfl⟩ := c1
    rw [if_neg (nI_pos (by omega)), if_pos (nI_lt ha (by omega))]
    rcases lt_or (by omega) (fun q => hc ⟨⟨a, ha, rfl⟩, q⟩) with h1 | h1
    · rw [if_pos h1]
    · rw [if_neg h1]; split <;> rfl
  · rcases lt_or (by omega) c1 with h1 | h1
    · rw [if_pos h1]
    · rw [if_neg h1]; split <;> rfl
end
theorem sm_forget : Sm0 Inv mX11_forget mX12_forget := by
  intro σ τ ⟨w, h, gn, kn, kE, kS, gr, sz, wo, fo, tl, tx, sn, sk, sf, st, g, d, P, cv, im, is, ig, img, t1, t2⟩
  refine ⟨nI sn, s_up σ 0 15 0, s_up τ 0 15 0, by unfold mX11_forget; rw [is.2.2.2.2.2.2.2.1]; rfl, by unfold mX12_forget; rw [im.2.2.2.2.2.2.1]; rfl, ?_⟩
  have hg : ∀ i j, 26 ≤ i → i ≤ 58 → s_up σ 0 15 0 i j = σ i j := fun i j h1 h2 => su_o (by omega)
  have ht1 : ∀ j, s_up τ 0 15 0 1 j = τ 1 j := fun j => su_o (by omega)
  refine ⟨w, h, gn, kn, kE, kS, gr, sz, wo, fo, tl, tx, 0, sk, sf, st, g, d, P, ?_, im.seen (fun i j h1 h2 => su_o (by omega)) su_s (fun k hk => absurd hk (Nat.not_lt_zero k)), is.seen (fun i j h1 h2 => su_o (by omega)) su_s (fun k hk => absurd hk (Nat.not_lt_zero k)), ig.fr (by omega) (by omega) hg ht1, IMG.fr img hg ht1 (fun j => su_o (by omega)) (fun j => su_o (by omega)), ?_, ?_⟩
  · obtain ⟨c1, c2, c3, c4, c5, c6, c7, c8, c9, c10, c11⟩ := cv
    exact ⟨c1, c2, c3, c4, c5, c6, c7, c8, c9, by omega, fun k hk => absurd hk (Nat.not_lt_zero k)⟩
  · rw [su_o (by omega), su_o (by omega)]; exact t1
  · rw [su_o (by omega), su_o (by omega)]; exact t2
theorem i_chr_small {v : Nat} (h : v < 65536) : i_chr (nI v) = nI v := by
  unfold i_chr
  rw [pk_char, pk_tn (by omega), Nat.mod_eq_of_lt h]
theorem sm_type : Sm1 Inv mX11_type mX12_type := by
  intro a σ τ I
  have I0 := I
  obtain ⟨w, h, gn, kn, kE, kS, gr, sz, wo, fo, tl, tx, sn, sk, sf, st, g, d, P, cv, im, is, ig, img, t1, t2⟩ := I
  have htl : tl ≤ 200 := cv.2.2.2.2.2.2.2.1
  have e255 : (255 : Int64) = (255 : Int32).toInt64 := by decide
  unfold mX11_type mX12_type
  rw [l0_i, e255, m_in, bd_t, is.1, im.1]
  by_cases c : ∃ v, v < 256 ∧ a = nI v
  · obtain ⟨v, hv, rfl⟩ := c
    have n0 : ¬ nI v < 0 := nI_pos (by omega)
    have n1 : ¬ (255 : Int32) < nI v := nI_nlt (a := 255) (by omega) (by omega)
    rw [decide_eq_true ⟨n0, n1⟩, z1_t, if_neg n0, if_neg n1, if_neg (show ¬ (1 : Int32) = 0 by decide)]
    have e200 : (200 : Int32) = nI 200 := id rfl
    by_cases c2 : tl = 200
    · subst c2
      exact ⟨-3, σ, τ, by rw [if_neg (show ¬ nI 200 < 200 by decide)], by rw [if_pos (show nI 200 = 200 from rfl)], I0⟩
    · have hlt : tl < 200 := by omega
      rw [if_pos (show nI tl < 200 from nI_lt (b := 200) hlt (by decide)), if_neg (show ¬ nI tl = 200 by rw [e200, nI_inj (by omega) (by omega)]; exact c2), gd_t (ib_nI hlt (by omega)), gd_t (ib_nI hlt (by omega)), nx_nI (by omega), i_chr_small (by omega)]
      simp only [lt_t]
      have q1 : s_up σ 1 tl (nI v) 0 1 = nI tl := by rw [su_o (by omega)]; exact is.1
      have q2 : s_up τ 3 tl (nI v) 0 3 = nI tl := by rw [su_o (by omega)]; exact im.1
      rw [q1, q2, li1, nI_add, su_s, su_s]
      refine ⟨nI (tl + 1), _, _, rfl, rfl, ?_⟩
      have hs : ∀ i j, i ≠ 1 → ¬ (i = 0 ∧ j = 1) → s_up (s_up σ 1 tl (nI v)) 0 1 (nI (tl + 1)) i j = σ i j := fun i j h1 h2 => by rw [su_o (by omega), su_o (by omega)]
      have ht : ∀ i j, i ≠ 3 → ¬ (i = 0 ∧ j = 3) → s_up (s_up τ 3 tl (nI v)) 0 3 (nI (tl + 1)) i j = τ i j := fun i j h1 h2 => by rw [su_o (by omega), su_o (by omega)]
      have hg : ∀ i j, 26 ≤ i → i ≤ 58 → s_up (s_up σ 1 tl (nI v)) 0 1 (nI (tl + 1)) i j = σ i j := fun i j h1 h2 => hs i j (by omega) (by omega)
      have ht1 : ∀ j, s_up (s_up τ 3 tl (nI v)) 0 3 (nI (tl + 1)) 1 j = τ 1 j := fun j => ht 1 j (by omega) (by omega)
      refine ⟨w, h, gn, kn, kE, kS, gr, sz, wo, fo, tl + 1, fun j => if j = tl then v else tx j, sn, sk, sf, st, g, d, P, ?_, im.txt ht su_s (fun j hj => ?_), is.txt hs su_s (fun j hj => ?_), ig.fr (by omega) (by omega) hg ht1, IMG.fr img hg ht1 (fun j => hs 2 j (by omega) (by omega)) (fun j => ht 2 j (by omega) (by omega)), ?_, ?_⟩
      · obtain ⟨c1, c2, c3, c4, c5, c6, c7, c8, c9, c10⟩ := cv
        refine ⟨c1, c2, c3, c4, c5, c6, c7, by omega, fun j hj => ?_, c10⟩
        show (if j = tl then v else tx j) < 256
        split
        · exact hv
        · exact c9 j (by omega)
      · rw [su_o (by omega)]
        show _ = nI (if j = tl then v else tx j)
        by_cases c3 : j = tl
        · subst c3; rw [su_s, if_pos rfl]
        · rw [su_o (by omega), if_neg c3]; exact im.2.1 j (by omega)
      · rw [su_o (by omega)]
        show _ = nI (if j = tl then v else tx j)
        by_cases c3 : j = tl
        · subst c3; rw [su_s, if_pos rfl]
        · rw [su_o (by omega), if_neg c3]; exact is.2.1 j (by omega)
      · rw [hs 0 100 (by omega) (by omega), ht 0 100 (by omega) (by omega)]; exact t1
      · rw [hs 0 101 (by omega) (by omega), ht 0 101 (by omega) (by omega)]; exact t2
  · have nn : ¬ (¬ a < 0 ∧ ¬ (255 : Int32) < a) := fun q => c ((nlt_pred (x := a) (w := 256) (by omega)).mp q)
    refine ⟨-1, σ, τ, ?_, by rw [decide_eq_false nn, if_pos z1_f], I0⟩
    by_cases c1 : a < 0
    · rw [if_pos c1]
    · rw [if_neg c1, if_pos (Classical.byContradiction fun q => nn ⟨c1, q⟩)]

/-! pure: rolls, the call -/
section
variable {σ τ σ' τ' : St} {w h gn kn kE kS tl sn d t1 t2 n : Nat} {gr sz wo fo tx sk sf st hg li pb : Nat → Nat} {g : Gr} {P : Nat → Gr} {sh : Nat → Nat → Bool}
theorem SQv.tr {a b c : St} (h : SQv a b) (k : SQv b c) : SQv a c := fun i j h1 h2 h3 => by rw [k i j h1 h2 h3, h i j h1 h2 h3]
theorem SX.v (X : SX σ w h sh hg gr kn sz fo) (q : SQv σ σ') : SX σ' w h sh hg gr kn sz fo := X.q' (fun i j hi => q i j (by omega) (by omega) (by omega))
def ap2 (sh : Nat → Nat → Bool) (hg gr : Nat → Nat) (w : Nat) (sz fo : Nat → Nat) (q : Nat × Nat) (i : Nat) : Bool := apF sh hg gr w sz fo q.1 q.2 i
theorem s_f30 {kk : Int32 → Int32 → Int32 → St → Option (Int32 × St)} {a : Nat} (ha : a < kn) (hk : kn ≤ 5) : ∀ (m N b : Nat) (L : List (Nat × Nat)) (σ : St), SX σ w h sh hg gr kn sz fo → TL σ (w * h) (ap2 sh hg gr w sz fo) L → b + m = kn → L.length + m ≤ 10 → ∃ σ' L', mX11_rolls_30 kk (N + m + 1) (nI (tbL (fun _ => true) L)) (nI L.length) (nI a) (nI b) σ = kk (nI (tbL (fun _ => true) L')) (nI L'.length) (nI a) σ' ∧ TL σ' (w * h) (ap2 sh hg gr w sz fo) L' ∧ L'.length = L.length + m ∧ (∀ q, q ∈ L' ↔ q ∈ L ∨ (q.1 = a ∧ b ≤ q.2 ∧ q.2 < kn)) ∧ SQv σ σ'
  | 0, N, b, L, σ, X, T, e, hl => by
    refine ⟨σ, L, ?_, T, rfl, fun q => ⟨fun z => Or.inl z, fun z => z.elim id (fun z => by omega)⟩, fun _ _ _ _ _ => rfl⟩
    rw [show N + 0 + 1 = N + 1 from rfl, mX11_rolls_30, X.2.2.2.2.2.1, if_neg (nI_nlt (by omega) (by omega))]
  | m + 1, N, b, L, σ, X, T, e, hl => by
    have h30 := X.1.1
    have hb : b < kn := by omega
    obtain ⟨σ1, e1, q1⟩ := s_apartBits X ha hb
    have X1 := X.q q1
    have ol := ob_lt (sh := sh) (hg := hg) (gr := gr) (w := w) (h := h) (sz := sz) (fo := fo) h30 (a, b)
    obtain ⟨σ2, n1, n2, n3⟩ := s_note (σ := σ1) (m := ob sh hg gr w h sz fo (a, b)) (p := 2 ^ L.length) (by omega) h30 X1.2.2.1 (f := fun j => tbL (fun q => ap2 sh hg gr w sz fo q j) L) (fun j hj => by rw [q1 3 j (by decide) (by decide)]; exact T j hj)
    have T2 : TL σ2 (w * h) (ap2 sh hg gr w sz fo) ((a, b) :: L) := by
      intro i hi
      rw [n2 i hi, tbL_c, ob_bit (a, b) hi]
      congr 1
      show (if apF sh hg gr w sz fo a b i = true then _ else _) = _ ||| if apF sh hg gr w sz fo a b i = true then _ else _
      by_cases c : apF sh hg gr w sz fo a b i = true
      · rw [if_pos c, if_pos c]
      · rw [if_neg c, if_neg c, Nat.or_zero]
    have Q : SQv σ σ2 := fun i j h1 h2 h3 => by rw [n3 i j h1, q1 i j h2 h3]
    obtain ⟨σ3, L', f1, f2, f3, f4, f5⟩ := s_f30 (kk := kk) ha hk m N (b + 1) ((a, b) :: L) σ2 (X.v Q) T2 (by omega) (by rw [List.length_cons]; omega)
    refine ⟨σ3, L', ?_, f2, by rw [f3, List.length_cons]; omega, fun q => ?_, Q.tr f5⟩
    · rw [show N + (m + 1) + 1 = (N + m + 1) + 1 from rfl, mX11_rolls_30, X.2.2.2.2.2.1, if_pos (nI_lt (by omega) (by omega)), e1, bd_t, shl1_nI (by omega)]
      rw [show mX11_noteTold (nI (orF (apF sh hg gr w sz fo a b) 0 0 (w * h))) (nI (2 ^ L.length)) σ1 = some (0, σ2) from n1, bd_t, lt_t, lt_t, lt_t, or_nI, li1, nI_add, nI_add]
      rw [tbL_c, if_pos rfl, List.length_cons] at f1
      exact f1
    · rw [f4 q, List.mem_cons]
      constructor
      · rintro ((rfl | z) | z)
        · exact Or.inr ⟨rfl, Nat.le_refl _, hb⟩
        · exact Or.inl z
        · exact Or.inr ⟨z.1, by omega, z.2.2⟩
      · rintro (z | ⟨z1, z2, z3⟩)
        · exact Or.inl (Or.inr z)
        · rcases (show q.2 = b ∨ b + 1 ≤ q.2 by omega) with c | c
          · exact Or.inl (Or.inl (by rw [← z1, ← c]))
          · exact Or.inr ⟨z1, c, z3⟩
theorem s_f14 (hk : kn ≤ 5) : ∀ (m N a : Nat) (L : List (Nat × Nat)) (σ : St), SX σ w h sh hg gr kn sz fo → TL σ (w * h) (ap2 sh hg gr w sz fo) L → a + m = kn → L.length + tri m ≤ 10 → (∀ q, q ∈ L ↔ q.1 < q.2 ∧ q.2 < kn ∧ q.1 < a) → ∃ σ' L', mX11_rolls_14 (N + m + 1) (nI (tbL (fun _ => true) L)) (nI L.length) (nI a) σ = bd (mX11_fewestTelling (nI (tbL (fun _ => true) L')) σ') (fun r s => some (r, s)) ∧ TL σ' (w * h) (ap2 sh hg gr w sz fo) L' ∧ L'.length ≤ 10 ∧ (∀ q, q ∈ L' ↔ q.1 < q.2 ∧ q.2 < kn) ∧ SQv σ σ'
  | 0, N, a, L, σ, X, T, e, hl, hm => by
    refine ⟨σ, L, ?_, T, by omega, fun q => by rw [hm q]; omega, fun _ _ _ _ _ => rfl⟩
    rw [show N + 0 + 1 = N + 1 from rfl, mX11_rolls_14, X.2.2.2.2.2.1, if_neg (nI_nlt (by omega) (by omega))]
  | m + 1, N, a, L, σ, X, T, e, hl, hm => by
    have ht : tri (m + 1) = tri m + m := rfl
    obtain ⟨σ1, L1, f1, f2, f3, f4, f5⟩ := s_f30 (kk := mX11_rolls_71 (mX11_rolls_14 (N + m + 1))) (show a < kn by omega) hk m (19999 - m) (a + 1) L σ X T (by omega) (by omega)
    rw [show 19999 - m + m + 1 = FU by unfold FU; omega] at f1
    obtain ⟨σ2, L2, g1, g2, g3, g4, g5⟩ := s_f14 hk m N (a + 1) L1 σ1 (X.v f5) f2 (by omega) (by omega) (fun q => by rw [f4 q, hm q]; omega)
    refine ⟨σ2, L2, ?_, g2, g3, g4, f5.tr g5⟩
    rw [show N + (m + 1) + 1 = (N + m + 1) + 1 from rfl, mX11_rolls_14, X.2.2.2.2.2.1, if_pos (nI_lt (by omega) (by omega)), lt_t, li1, nI_add, f1, mX11_rolls_71, lt_t, li1, nI_add]
    exact g1
end
theorem sm_rolls : Sm0 Inv mX11_rolls mX12_rolls := by
  intro σ τ I
  have I0 := I
  obtain ⟨w, h, gn, kn, kE, kS, gr, sz, wo, fo, tl, tx, sn, sk, sf, st, g, d, P, cv, im, is, ig, img, t1, t2⟩ := I
  have X := SX.of cv is ig.1 ig.2.2.1
  have Y := MX.of cv im ig.2.1 ig.2.2.1
  have h30 := X.1.1
  have k5 := X.2.2.2.2.1
  obtain ⟨σ1, e1, e2, e3⟩ := s_fill (r := 3) (ni := 30) (v := 0) (σ := σ) (by decide)
  have X1 : SX σ1 w h (shutA w h kE kS (g 5) 99 99) (g 0) gr kn sz fo := X.q' (fun i j hi => e3 i j (by omega))
  have ht : tri kn ≤ 10 := tri_le kn (by omega)
  obtain ⟨σ2, L, f1, f2, f3, f4, f5⟩ := s_f14 (h := h) k5 kn (19999 - kn) 0 [] σ1 X1 (fun i hi => by rw [e2 i (by omega), tbL_n]; rfl) (by omega) (by rw [List.length_nil]; omega) (fun q => by simp)
  rw [show 19999 - kn + kn + 1 = FU by unfold FU; omega, tbL_n, List.length_nil] at f1
  obtain ⟨τ2, h1, h2, h3⟩ := m_f4 (kk := mX12_rolls_46) k5 kn (19999 - kn) 0 τ Y (fun j hj => absurd hj (Nat.not_lt_zero j)) (by omega)
  rw [show 19999 - kn + kn + 1 = FU by unfold FU; omega] at h1
  have f1' : mX11_rolls_14 FU 0 0 0 σ1 = bd (mX11_fewestTelling (nI (tbL (fun _ => true) L)) σ2) (fun r s => some (r, s)) := f1
  have h1' : mX12_rolls_4 mX12_rolls_46 FU 0 0 τ = mX12_rolls_46 (nI (tri kn)) τ2 := h1
  have J : Inv σ2 τ2 := I0.fr (fun i j h => by unfold rS at h; rw [f5 i j (by omega) (by omega) (by omega), e3 i j (by omega)]) (fun i j h => h3 i j (by unfold rM at h; omega) (by unfold rM at h; omega))
  unfold mX11_rolls mX12_rolls
  rw [e1, bd_t, f1', h1']
  unfold mX12_rolls_46
  by_cases ck : kn ≤ 1
  · have hL : L = [] := by
      cases L with
      | nil => rfl
      | cons q L =>
        have := (f4 q).mp (List.mem_cons.mpr (Or.inl rfl))
        omega
    have h0 : tri kn = 0 := by
      rcases (show kn = 0 ∨ kn = 1 by omega) with q | q <;> rw [q] <;> rfl
    subst hL
    rw [h0, if_pos (show nI 0 = 0 from rfl), tbL_n]
    unfold mX11_fewestTelling
    rw [if_pos (show nI 0 = 0 from rfl), bd_t]
    exact ⟨_, σ2, τ2, rfl, rfl, J⟩
  · have hA : 0 < tbL (fun _ => true) L := by
      have hm : ((0, 1) : Nat × Nat) ∈ L := (f4 (0, 1)).mpr ⟨by decide, by show 1 < kn; omega⟩
      cases L with
      | nil => cases hm
      | cons q L =>
        rw [tbL_c, if_pos rfl, or_pow (tbL_lt _ L)]
        have : 0 < 2 ^ L.length := Nat.pow_pos (by decide)
        omega
    have ht0 : 0 < tri kn := by
      rcases (show kn = 2 ∨ kn = 3 ∨ kn = 4 ∨ kn = 5 by omega) with q | q | q | q <;> rw [q] <;> decide
    have lA : ∀ f : Nat × Nat → Bool, tbL f L < 2 ^ 31 := fun f => Nat.lt_of_lt_of_le (tbL_lt f L) (Nat.pow_le_pow_right (by decide) (by omega))
    have T : TT σ2 (w * h) (tbL (fun _ => true) L) (fun i => tbL (fun q => ap2 (shutA w h kE kS (g 5) 99 99) (g 0) gr w sz fo q i) L) (tM (ob (shutA w h kE kS (g 5) 99 99) (g 0) gr w h sz fo) (tri kn)) := by
      refine ⟨h30, ?_, lA _, f2, fun i j k => ?_, fun i j k hi hj hk => ?_⟩
      · rw [f5 10 2 (by decide) (by decide) (by decide)]; exact X1.2.2.1
      · rw [tbL_or, tbL_or]; exact lA _
      · rw [tbL_or, tbL_or]
        apply propext
        rw [tbL_all, tM_iff k5 hi hj hk]
        unfold told ap2
        constructor
        · intro H x y h1 h2
          have := H (y, x) ((f4 (y, x)).mpr ⟨h1, h2⟩)
          simp only [Bool.or_eq_true] at this
          rw [apF_symm x y i, apF_symm x y j, apF_symm x y k]
          rcases this with (z | z) | z
          · exact Or.inl z
          · exact Or.inr (Or.inl z)
          · exact Or.inr (Or.inr z)
        · intro H q hq
          obtain ⟨u1, u2⟩ := (f4 q).mp hq
          have := H q.2 q.1 u1 u2
          rw [apF_symm q.2 q.1 i, apF_symm q.2 q.1 j, apF_symm q.2 q.1 k] at this
          simp only [Bool.or_eq_true]
          rcases this with z | z | z
          · exact Or.inl (Or.inl z)
          · exact Or.inl (Or.inr z)
          · exact Or.inr z
    have F := m_r54 (m_TA (W := w * h) h2 ht (fun q => ob_lt h30 q)) h30 (m_cells (Y.wq h3)) 19996
    rw [s_fewest T hA, bd_t, if_neg (nI_nz ht0 (by omega)), show FU = 19996 + 4 from rfl, F]
    exact ⟨_, σ2, τ2, rfl, rfl, J⟩

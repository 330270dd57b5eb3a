/-! pure: the items of the text: kinds, kerbs, gratings -/
def CRV (w h gn kn kE kS : Nat) (gr sz wo fo ht : Nat → Nat) : Prop := 0 < w ∧ w ≤ 6 ∧ 0 < h ∧ h ≤ 5 ∧ kE < 2 ^ 30 ∧ kS < 2 ^ 30 ∧ gn ≤ 4 ∧ kn ≤ 5 ∧ (∀ i, i < 30 → gr i ≤ 9) ∧ (∀ k, k < kn → 1 ≤ sz k ∧ sz k ≤ 9 ∧ 1 ≤ wo k ∧ wo k ≤ 99 ∧ fo k ≤ 1) ∧ ∀ i, i < w * h → ht i ≤ 9
def CRS (σ : St) (w h gn kn kE kS : Nat) (gr sz wo fo ht : Nat → Nat) : Prop := σ 18 0 = nI w ∧ σ 18 1 = nI h ∧ σ 18 2 = nI (w * h) ∧ σ 18 3 = nI gn ∧ σ 18 4 = nI kn ∧ (∀ i, i < w * h → σ 20 i = nI (kway w h kE kS i 4)) ∧ (∀ i, i < w * h → σ 21 i = nI (gr i)) ∧ (∀ i, i < w * h → σ 19 i = nI (ht i)) ∧ (∀ i, i < w * h → ∀ v, v < 4 → σ 22 (4 * i + v) = if edge w h i v then -1 else nI (nbr w i v)) ∧ ∀ k, k < kn → σ 23 k = nI (sz k) ∧ σ 24 k = nI (wo k) ∧ σ 25 k = nI (fo k)
def CRM (τ : St) (w h gn kn kE kS : Nat) (gr sz wo fo ht : Nat → Nat) : Prop := τ 0 20 = nI w ∧ τ 0 21 = nI h ∧ τ 0 25 = nI gn ∧ τ 0 26 = nI kn ∧ τ 12 0 = nI kE ∧ τ 12 1 = nI kS ∧ (∀ i, i < 30 → τ 13 i = nI (gr i)) ∧ (∀ i, i < w * h → τ 11 i = nI (ht i)) ∧ ∀ k, k < kn → τ 14 (3 * k) = nI (sz k) ∧ τ 14 (3 * k + 1) = nI (wo k) ∧ τ 14 (3 * k + 2) = nI (fo k)
def CR (σ τ : St) : Prop := ∃ w h gn kn kE kS gr sz wo fo ht, CRV w h gn kn kE kS gr sz wo fo ht ∧ CRS σ w h gn kn kE kS gr sz wo fo ht ∧ CRM τ w h gn kn kE kS gr sz wo fo ht
def FSx (σ σ' : St) : Prop := ∀ i j, ¬ (18 ≤ i ∧ i ≤ 25) → ¬ (i = 68 ∧ 2 ≤ j) → σ' i j = σ i j
def FMx (τ τ' : St) : Prop := ∀ i j, ¬ (i = 0 ∧ 17 ≤ j ∧ j ≤ 27) → ¬ (11 ≤ i ∧ i ≤ 15) → τ' i j = τ i j
def FMn (τ τ' : St) : Prop := ∀ i j, ¬ (i = 0 ∧ 17 ≤ j ∧ j ≤ 19) → i ≠ 15 → τ' i j = τ i j
theorem FSx.tr {a b c : St} (h : FSx a b) (k : FSx b c) : FSx a c := fun i j h1 h2 => by rw [k i j h1 h2, h i j h1 h2]
theorem FMx.tr {a b c : St} (h : FMx a b) (k : FMx b c) : FMx a c := fun i j h1 h2 => by rw [k i j h1 h2, h i j h1 h2]
theorem FMn.tr {a b c : St} (h : FMn a b) (k : FMn b c) : FMn a c := fun i j h1 h2 => by rw [k i j h1 h2, h i j h1 h2]
theorem F68.x {a b : St} (h : F68 a b) : FSx a b := fun i j _ h2 => h i j h2
theorem FMn.x {a b : St} (h : FMn a b) : FMx a b := fun i j h1 h2 => h i j (by omega) (by omega)
section
variable {σ τ σ' τ' : St} {tl p w h gn kn kE kS : Nat} {tx gr sz wo fo ht : Nat → Nat}
theorem CRS.fr (C : CRS σ w h gn kn kE kS gr sz wo fo ht) (hs : ∀ i j, 18 ≤ i → i ≤ 25 → σ' i j = σ i j) : CRS σ' w h gn kn kE kS gr sz wo fo ht := by
  obtain ⟨a1, a2, a3, a4, a5, a6, a7, a8, a9, a10⟩ := C
  refine ⟨?_, ?_, ?_, ?_, ?_, fun i hi => ?_, fun i hi => ?_, fun i hi => ?_, fun i hi v hv => ?_, fun k hk => ?_⟩
  · rw [hs _ _ (by omega) (by omega)]; exact a1
  · rw [hs _ _ (by omega) (by omega)]; exact a2
  · rw [hs _ _ (by omega) (by omega)]; exact a3
  · rw [hs _ _ (by omega) (by omega)]; exact a4
  · rw [hs _ _ (by omega) (by omega)]; exact a5
  · rw [hs _ _ (by omega) (by omega)]; exact a6 i hi
  · rw [hs _ _ (by omega) (by omega)]; exact a7 i hi
  · rw [hs _ _ (by omega) (by omega)]; exact a8 i hi
  · rw [hs _ _ (by omega) (by omega)]; exact a9 i hi v hv
  · rw [hs _ _ (by omega) (by omega), hs _ _ (by omega) (by omega), hs _ _ (by omega) (by omega)]; exact a10 k hk
theorem CRM.fr (C : CRM τ w h gn kn kE kS gr sz wo fo ht) (ht' : ∀ i j, (i = 0 ∧ 20 ≤ j ∧ j ≤ 26) ∨ (11 ≤ i ∧ i ≤ 14) → τ' i j = τ i j) : CRM τ' w h gn kn kE kS gr sz wo fo ht := by
  obtain ⟨a1, a2, a3, a4, a5, a6, a7, a8, a9⟩ := C
  refine ⟨?_, ?_, ?_, ?_, ?_, ?_, fun i hi => ?_, fun i hi => ?_, fun k hk => ?_⟩
  · rw [ht' _ _ (by omega)]; exact a1
  · rw [ht' _ _ (by omega)]; exact a2
  · rw [ht' _ _ (by omega)]; exact a3
  · rw [ht' _ _ (by omega)]; exact a4
  · rw [ht' _ _ (by omega)]; exact a5
  · rw [ht' _ _ (by omega)]; exact a6
  · rw [ht' _ _ (by omega)]; exact a7 i hi
  · rw [ht' _ _ (by omega)]; exact a8 i hi
  · rw [ht' _ _ (by omega), ht' _ _ (by omega), ht' _ _ (by omega)]; exact a9 k hk
/-- both readers stand before the word at p -/
def RD (σ τ : St) (tl : Nat) (tx : Nat → Nat) (p : Nat) : Prop := TXS σ tl tx ∧ TXM τ tl tx ∧ σ 68 2 = nI p ∧ σ 68 6 = -1 ∧ MT τ tl tx p ∧ p ≤ tl
/-- both have failed at the same place -/
def FA (σ τ : St) (tl : Nat) : Prop := ∃ q, q ≤ tl ∧ σ 68 6 = nI q ∧ τ 0 18 = nI q
theorem FA.n (F : FA σ τ tl) (h2 : tl ≤ 200) : ¬ σ 68 6 = -1 := by
  obtain ⟨q, h1, e, -⟩ := F
  rw [e]
  exact nI_m1 (by omega)
theorem nvl_lt (T : TXS σ tl tx) (hp : p ≤ tl) (hn : nsg tl tx p = 2) : nvl tl tx p < 2 ^ 31 := by
  have t4 := T.2.2.2.2
  have hb : tB tl tx p < tl := by
    unfold nsg at hn
    split at hn
    · assumption
    · omega
  have h1 := t4 _ hb
  have hs : sgc (tx (tB tl tx p)) = 2 := by
    unfold nsg at hn
    rw [if_pos hb] at hn
    split at hn
    · omega
    · split at hn
      · assumption
      · split at hn <;> omega
  unfold nvl
  split
  · split <;> omega
  · split
    · omega
    · rename_i c
      have := (two_dig hp hb hs c)
      omega
/-- a number is read on both sides; the reference keeps it and goes to the next word -/
theorem rn (R : RD σ τ tl tx p) {s L H : Nat} (hs : s < 3) (hL : L < 1000) (hH : H < 1000) : (∃ v σ' τ', mX7_readNumber (nI L) (nI H) σ = some (nI v, σ') ∧ mX12_reads (nI s) (nI L) (nI H) τ = some (1, τ') ∧ RD σ' τ' tl tx (tE tl tx p) ∧ τ' 15 s = nI v ∧ L ≤ v ∧ v ≤ H ∧ F68 σ σ' ∧ FMn τ τ' ∧ (∀ j, j ≠ s → τ' 15 j = τ 15 j)) ∨ (∃ r σ' τ', mX7_readNumber (nI L) (nI H) σ = some (r, σ') ∧ mX12_reads (nI s) (nI L) (nI H) τ = some (0, τ') ∧ FA σ' τ' tl ∧ F68 σ σ' ∧ FMn τ τ') := by
  obtain ⟨TS, TM, h2, h6, M, hp⟩ := R
  obtain ⟨r, σ1, a1, a2, a3⟩ := s_readN TS h2 h6 hp (nI L) (nI H)
  have hE := tE_le tx hp
  have hB := tB_le tx hp
  have h200 := TM.2.2.1
  unfold mX12_reads
  rcases m_number TM M hp (nI L) (nI H) with ⟨ok, m1⟩ | ⟨ok, m1⟩
  · rcases a3 with ⟨-, b1, b2, b3, b4⟩ | ⟨nok, -⟩
    · left
      have vl := nvl_lt TS hp ok.1
      obtain ⟨τ1, hτ1⟩ : ∃ τ1, τ1 = s_up τ 15 s (nI (nvl tl tx p)) := ⟨_, rfl⟩
      have f1 : ∀ i j, ¬ (i = 15 ∧ j = s) → τ1 i j = τ i j := fun i j hij => by rw [hτ1, su_o (by omega)]
      have T1 : TXM τ1 tl tx := TM.fr (fun j => f1 3 j (by omega)) (f1 0 3 (by omega))
      have g := m_token T1 (p := tE tl tx p) (by rw [f1 0 17 (by omega)]; exact M.1) hE.2.1
      refine ⟨nvl tl tx p, σ1, _, by rw [a1, b1], ?_, ⟨a2.txs TS, T1.fr (fun j => mT_o (by omega)) (mT_o (by omega)), b2, b4, ⟨mT_17, mT_18, mT_19⟩, hE.2.1⟩, by rw [mT_o (by omega), hτ1, su_s], ?_, ?_, a2, fun i j h1 h2 => by rw [mT_o h1, f1 i j (by omega)], fun j hj => by rw [mT_o (by omega), f1 15 j (by omega)]⟩
      · rw [m1, bd_t, gd_t (ib_nI hs (by decide))]
        simp only [nx_nI (show s < 2 ^ 31 by omega)]
        rw [lt_t, gd_t (ib_nI hs (by decide)), su_s, if_neg (nI_m9 vl), ← hτ1, g, bd_t]
      · have := ok.2.1
        rw [nI_ltp vl (by omega)] at this
        omega
      · have := ok.2.2
        rw [nI_ltp (by omega) vl] at this
        omega
    · exact absurd ok nok
  · rcases a3 with ⟨ok', -⟩ | ⟨-, b1⟩
    · exact absurd ok' ok
    · right
      refine ⟨r, σ1, s_up τ 15 s (-9), a1, ?_, ⟨tB tl tx p, hB.2, b1, by rw [su_o (by omega)]; exact M.2.1⟩, a2, fun i j h1 h2 => su_o (by omega)⟩
      rw [m1, bd_t, gd_t (ib_nI hs (by decide))]
      simp only [nx_nI (show s < 2 ^ 31 by omega)]
      rw [lt_t, gd_t (ib_nI hs (by decide)), su_s, if_pos rfl]
/-- what comes of an item's words -/
def OUT (tl : Nat) (tx : Nat → Nat) (p : Nat) (σ τ : St) (so mo : Option (Int32 × St)) : Prop := (∃ σ' τ' p', so = some (0, σ') ∧ mo = some (1, τ') ∧ RD σ' τ' tl tx p' ∧ p ≤ p' ∧ CR σ' τ' ∧ FSx σ σ' ∧ FMx τ τ') ∨ (∃ σ' τ', so = some (0, σ') ∧ mo = some (0, τ') ∧ FA σ' τ' tl ∧ FSx σ σ' ∧ FMx τ τ')
theorem tE_ge (hp : p ≤ tl) : p ≤ tE tl tx p := Nat.le_trans (tB_le tx hp).1 (tE_le tx hp).1
theorem m_k36 {kk : St → Option (Int32 × St)} {k a b c : Nat} (hk : k < 5) (h26 : τ 0 26 = nI k) (h0 : τ 15 0 = nI a) (h1 : τ 15 1 = nI b) (h2 : τ 15 2 = nI c) : ∃ τ', mX12_readsKind_36 kk FU 0 τ = kk τ' ∧ τ' 14 (3 * k) = nI a ∧ τ' 14 (3 * k + 1) = nI b ∧ τ' 14 (3 * k + 2) = nI c ∧ ∀ i j, ¬ (i = 14 ∧ 3 * k ≤ j ∧ j ≤ 3 * k + 2) → τ' i j = τ i j := by
  obtain ⟨τ1, hτ1⟩ : ∃ τ1, τ1 = s_up τ 14 (3 * k) (nI a) := ⟨_, rfl⟩
  obtain ⟨τ2, hτ2⟩ : ∃ τ2, τ2 = s_up τ1 14 (3 * k + 1) (nI b) := ⟨_, rfl⟩
  obtain ⟨τ3, hτ3⟩ : ∃ τ3, τ3 = s_up τ2 14 (3 * k + 2) (nI c) := ⟨_, rfl⟩
  have f1 : ∀ i j, i ≠ 14 → τ1 i j = τ i j := fun i j hi => by rw [hτ1, su_o (by omega)]
  have f2 : ∀ i j, i ≠ 14 → τ2 i j = τ i j := fun i j hi => by rw [hτ2, su_o (by omega), f1 i j hi]
  refine ⟨τ3, ?_, by rw [hτ3, su_o (by omega), hτ2, su_o (by omega), hτ1, su_s], by rw [hτ3, su_o (by omega), hτ2, su_s], by rw [hτ3, su_s], fun i j hij => by rw [hτ3, su_o (by omega), hτ2, su_o (by omega), hτ1, su_o (by omega)]⟩
  have st : ∀ (σ : St) (N v x : Nat), v < 3 → σ 0 26 = nI k → σ 15 v = nI x → mX12_readsKind_36 kk (N + 1) (nI v) σ = mX12_readsKind_36 kk N (nI (v + 1)) (s_up σ 14 (3 * k + v) (nI x)) := by
    intro σ N v x hv g26 gx
    rw [mX12_readsKind_36, if_pos (show nI v < 3 from nI_lt (b := 3) hv (by decide)), gd_t (ib_nI hv (by decide)), g26, li3, pk_mul, nI_add, gd_t (ib_nI (by omega) (by decide)), nx_nI (by omega), nx_nI (by omega), gx, lt_t, lt_t, li1, nI_add]
  rw [show FU = 19996 + 1 + 1 + 1 + 1 from rfl, show (0 : Int32) = nI 0 from rfl, st τ _ 0 a (by decide) h26 h0, show 3 * k + 0 = 3 * k from rfl, ← hτ1, show (0 + 1 : Nat) = 1 from rfl, st τ1 _ 1 b (by decide) (by rw [f1 0 26 (by omega)]; exact h26) (by rw [f1 15 1 (by omega)]; exact h1), ← hτ2, show (1 + 1 : Nat) = 2 from rfl, st τ2 _ 2 c (by decide) (by rw [f2 0 26 (by omega)]; exact h26) (by rw [f2 15 2 (by omega)]; exact h2), ← hτ3, mX12_readsKind_36, if_neg (show ¬ nI (2 + 1) < 3 by decide)]
theorem it_kind (R : RD σ τ tl tx p) (V : CRV w h gn kn kE kS gr sz wo fo ht) (C : CRS σ w h gn kn kE kS gr sz wo fo ht) (D : CRM τ w h gn kn kE kS gr sz wo fo ht) (hk : kn < 5) : OUT tl tx p σ τ (mX7_readKind σ) (mX12_readsKind τ) := by
  have h200 := R.1.2.2.2.1
  have hp := R.2.2.2.2.2
  unfold mX7_readKind mX12_readsKind
  rw [C.2.2.2.2.1, if_pos (show nI kn < 5 from nI_lt (b := 5) hk (by decide))]
  have z0 : (0 : Int32) = nI 0 := rfl
  rcases rn R (s := 0) (L := 1) (H := 9) (by decide) (by decide) (by decide) with ⟨a, σ1, τ1, a1, a2, a3, a4, a5, a6, a7, a8, a9⟩ | ⟨r, σ1, τ1, a1, a2, a3, a4, a5⟩
  · rw [show mX7_readNumber 1 9 σ = _ from a1, bd_t, show mX12_reads 0 1 9 τ = _ from a2, bd_t, if_neg n10]
    rcases rn a3 (s := 1) (L := 1) (H := 99) (by decide) (by decide) (by decide) with ⟨b, σ2, τ2, b1, b2, b3, b4, b5, b6, b7, b8, b9⟩ | ⟨r, σ2, τ2, b1, b2, b3, b4, b5⟩
    · rw [show mX7_readNumber 1 99 σ1 = _ from b1, bd_t, show mX12_reads 1 1 99 τ1 = _ from b2, bd_t, if_neg n10]
      rcases rn b3 (s := 2) (L := 0) (H := 1) (by decide) (by decide) (by decide) with ⟨c, σ3, τ3, c1, c2, c3, c4, c5, c6, c7, c8, c9⟩ | ⟨r, σ3, τ3, c1, c2, c3, c4, c5⟩
      · have F3 := (a7.tr b7).tr c7
        have G3 := (a8.tr b8).tr c8
        have h26 : τ3 0 26 = nI kn := by rw [G3 0 26 (by omega) (by omega)]; exact D.2.2.2.1
        obtain ⟨τ4, d1, d2, d3, d4, d5⟩ := m_k36 (kk := mX12_readsKind_66) hk h26 (by rw [c9 0 (by omega), b9 0 (by omega)]; exact a4) (by rw [c9 1 (by omega)]; exact b4) c4
        rw [show mX7_readNumber 0 1 σ2 = _ from c1, bd_t, show mX12_reads 2 0 1 τ2 = _ from c2, bd_t, if_neg n10, c3.2.2.2.1, if_pos rfl, d1]
        have k4 : σ3 18 4 = nI kn := by rw [F3 18 4 (by omega)]; exact C.2.2.2.2.1
        left
        obtain ⟨σ4, hσ4⟩ : ∃ σ4, σ4 = s_up (s_up (s_up (s_up σ3 23 kn (nI a)) 24 kn (nI b)) 25 kn (nI c)) 18 4 (nI (kn + 1)) := ⟨_, rfl⟩
        have f4 : ∀ i j, ¬ (i = 18 ∧ j = 4) → ¬ (23 ≤ i ∧ i ≤ 25 ∧ j = kn) → σ4 i j = σ3 i j := fun i j h1 h2 => by rw [hσ4, su_o (by omega), su_o (by omega), su_o (by omega), su_o (by omega)]
        have h4 : mX2_addKind 18 (nI a) (nI b) (nI c) σ3 = some (0, σ4) := by
          have e1 : s_up σ3 23 kn (nI a) 18 4 = nI kn := by rw [su_o (by omega)]; exact k4
          have e2 : s_up (s_up σ3 23 kn (nI a)) 24 kn (nI b) 18 4 = nI kn := by rw [su_o (by omega)]; exact e1
          have e3 : s_up (s_up (s_up σ3 23 kn (nI a)) 24 kn (nI b)) 25 kn (nI c) 18 4 = nI kn := by rw [su_o (by omega)]; exact e2
          unfold mX2_addKind
          rw [k4, if_pos (show nI kn < 5 from nI_lt (b := 5) hk (by decide)), gd_t (ib_nI hk (by decide)), nx_nI (by omega), lt_t, e1, gd_t (ib_nI hk (by decide)), nx_nI (by omega), lt_t, e2, gd_t (ib_nI hk (by decide)), nx_nI (by omega), lt_t, e3, lt_t, li1, nI_add, ← hσ4]
        obtain ⟨τ5, hτ5⟩ : ∃ τ5, τ5 = s_up τ4 0 26 (nI (kn + 1)) := ⟨_, rfl⟩
        have f5 : ∀ i j, ¬ (i = 0 ∧ j = 26) → ¬ (i = 14 ∧ 3 * kn ≤ j ∧ j ≤ 3 * kn + 2) → τ5 i j = τ3 i j := fun i j h1 h2 => by rw [hτ5, su_o (by omega), d5 i j h2]
        have m5 : mX12_readsKind_66 τ4 = some (1, τ5) := by
          unfold mX12_readsKind_66
          rw [d5 0 26 (by omega), h26, li1, nI_add, lt_t, ← hτ5]
        refine ⟨σ4, τ5, tE tl tx (tE tl tx (tE tl tx p)), by rw [h4, bd_t], m5, ?_, ?_, ?_, ?_, ?_⟩
        · obtain ⟨q1, q2, q3, q4, ⟨q5, q6, q7⟩, q8⟩ := c3
          exact ⟨q1.fr (fun j => f4 1 j (by omega) (by omega)) (f4 68 0 (by omega) (by omega)) (f4 68 1 (by omega) (by omega)), q2.fr (fun j => f5 3 j (by omega) (by omega)) (f5 0 3 (by omega) (by omega)), by rw [f4 68 2 (by omega) (by omega)]; exact q3, by rw [f4 68 6 (by omega) (by omega)]; exact q4, ⟨by rw [f5 0 17 (by omega) (by omega)]; exact q5, by rw [f5 0 18 (by omega) (by omega)]; exact q6, by rw [f5 0 19 (by omega) (by omega)]; exact q7⟩, q8⟩
        · have e1 := tE_ge (tx := tx) hp
          have e2 := tE_ge (tx := tx) a3.2.2.2.2.2
          have e3 := tE_ge (tx := tx) b3.2.2.2.2.2
          omega
        · obtain ⟨v1, v2, v3, v4, v5, v6, v7, v8, v9, v10, v11⟩ := V
          obtain ⟨s1, s2, s3, s4, s5, s6, s7, s8, s9, s10⟩ := C
          obtain ⟨m1, m2, m3, m4, m5', m6, m7, m8, m9⟩ := D
          have g3 : ∀ i j, i ≠ 68 → σ3 i j = σ i j := fun i j hi => F3 i j (by omega)
          have g3' : ∀ i j, ¬ (i = 0 ∧ 17 ≤ j ∧ j ≤ 19) → i ≠ 15 → τ3 i j = τ i j := G3
          refine ⟨w, h, gn, kn + 1, kE, kS, gr, fun k => if k = kn then a else sz k, fun k => if k = kn then b else wo k, fun k => if k = kn then c else fo k, ht, ⟨v1, v2, v3, v4, v5, v6, v7, by omega, v9, fun k hk' => ?_, v11⟩, ⟨?_, ?_, ?_, ?_, by rw [hσ4, su_s], fun i hi => ?_, fun i hi => ?_, fun i hi => ?_, fun i hi v hv => ?_, fun k hk' => ?_⟩, ⟨?_, ?_, ?_, by rw [hτ5, su_s], ?_, ?_, fun i hi => ?_, fun i hi => ?_, fun k hk' => ?_⟩⟩
          · show 1 ≤ (if k = kn then a else sz k) ∧ (if k = kn then a else sz k) ≤ 9 ∧ 1 ≤ (if k = kn then b else wo k) ∧ (if k = kn then b else wo k) ≤ 99 ∧ (if k = kn then c else fo k) ≤ 1
            by_cases q : k = kn
            · simp only [if_pos q]; omega
            · simp only [if_neg q]; exact v10 k (by omega)
          · rw [f4 18 0 (by omega) (by omega), g3 18 0 (by omega)]; exact s1
          · rw [f4 18 1 (by omega) (by omega), g3 18 1 (by omega)]; exact s2
          · rw [f4 18 2 (by omega) (by omega), g3 18 2 (by omega)]; exact s3
          · rw [f4 18 3 (by omega) (by omega), g3 18 3 (by omega)]; exact s4
          · rw [f4 20 i (by omega) (by omega), g3 20 i (by omega)]; exact s6 i hi
          · rw [f4 21 i (by omega) (by omega), g3 21 i (by omega)]; exact s7 i hi
          · rw [f4 19 i (by omega) (by omega), g3 19 i (by omega)]; exact s8 i hi
          · rw [f4 22 _ (by omega) (by omega), g3 22 _ (by omega)]; exact s9 i hi v hv
          · show _ = nI (if k = kn then a else sz k) ∧ _ = nI (if k = kn then b else wo k) ∧ _ = nI (if k = kn then c else fo k)
            by_cases q : k = kn
            · subst q
              simp only [if_pos]
              refine ⟨?_, ?_, ?_⟩
              · rw [hσ4, su_o (by omega), su_o (by omega), su_o (by omega), su_s]
              · rw [hσ4, su_o (by omega), su_o (by omega), su_s]
              · rw [hσ4, su_o (by omega), su_s]
            · simp only [if_neg q]
              rw [f4 23 k (by omega) (by omega), f4 24 k (by omega) (by omega), f4 25 k (by omega) (by omega), g3 23 k (by omega), g3 24 k (by omega), g3 25 k (by omega)]
              exact s10 k (by omega)
          · rw [f5 0 20 (by omega) (by omega), g3' 0 20 (by omega) (by omega)]; exact m1
          · rw [f5 0 21 (by omega) (by omega), g3' 0 21 (by omega) (by omega)]; exact m2
          · rw [f5 0 25 (by omega) (by omega), g3' 0 25 (by omega) (by omega)]; exact m3
          · rw [f5 12 0 (by omega) (by omega), g3' 12 0 (by omega) (by omega)]; exact m5'
          · rw [f5 12 1 (by omega) (by omega), g3' 12 1 (by omega) (by omega)]; exact m6
          · rw [f5 13 i (by omega) (by omega), g3' 13 i (by omega) (by omega)]; exact m7 i hi
          · rw [f5 11 i (by omega) (by omega), g3' 11 i (by omega) (by omega)]; exact m8 i hi
          · show _ = nI (if k = kn then a else sz k) ∧ _ = nI (if k = kn then b else wo k) ∧ _ = nI (if k = kn then c else fo k)
            by_cases q : k = kn
            · subst q
              simp only [if_pos]
              rw [hτ5, su_o (by omega), su_o (by omega), su_o (by omega)]
              exact ⟨d2, d3, d4⟩
            · simp only [if_neg q]
              rw [f5 14 _ (by omega) (by omega), f5 14 _ (by omega) (by omega), f5 14 _ (by omega) (by omega), g3' 14 _ (by omega) (by omega), g3' 14 _ (by omega) (by omega), g3' 14 _ (by omega) (by omega)]
              exact m9 k (by omega)
        · exact fun i j h1 h2 => by rw [f4 i j (by omega) (by omega), F3 i j h2]
        · exact fun i j h1 h2 => by rw [f5 i j (by omega) (by omega), G3 i j (by omega) (by omega)]
      · rw [show mX7_readNumber 0 1 σ2 = _ from c1, bd_t, show mX12_reads 2 0 1 τ2 = _ from c2, bd_t, if_pos rfl, if_neg (c3.n h200)]
        exact Or.inr ⟨σ3, τ3, rfl, rfl, c3, ((a7.tr b7).tr c4).x, ((a8.tr b8).tr c5).x⟩
    · rw [show mX7_readNumber 1 99 σ1 = _ from b1, bd_t, show mX12_reads 1 1 99 τ1 = _ from b2, bd_t, if_pos rfl, s_readN0 (b3.n h200), bd_t, if_neg (b3.n h200)]
      exact Or.inr ⟨σ2, τ2, rfl, rfl, b3, (a7.tr b4).x, (a8.tr b5).x⟩
  · rw [show mX7_readNumber 1 9 σ = _ from a1, bd_t, show mX12_reads 0 1 9 τ = _ from a2, bd_t, if_pos rfl, s_readN0 (a3.n h200), bd_t, s_readN0 (a3.n h200), bd_t, if_neg (a3.n h200)]
    exact Or.inr ⟨σ1, τ1, rfl, rfl, a3, a4.x, a5.x⟩
end

/-! pure: an item; the whole text -/
section
variable {σ τ σ' τ' : St} {tl p : Nat} {tx : Nat → Nat}
def FMy (τ τ' : St) : Prop := ∀ i j, ¬ (i = 0 ∧ 17 ≤ j ∧ j ≤ 28) → ¬ (11 ≤ i ∧ i ≤ 15) → τ' i j = τ i j
theorem FMx.y {a b : St} (h : FMx a b) : FMy a b := fun i j h1 h2 => h i j (by omega) h2
theorem FMy.tr {a b c : St} (h : FMy a b) (k : FMy b c) : FMy a c := fun i j h1 h2 => by rw [k i j h1 h2, h i j h1 h2]
theorem nsg3 : nsg tl tx p = 3 ↔ (tB tl tx p < tl ∧ tx (tB tl tx p) = 59) := by
  unfold nsg
  by_cases c : tB tl tx p < tl
  · rw [if_pos c]
    by_cases c1 : sgc (tx (tB tl tx p)) = 1
    · rw [if_pos c1]
      have := sgc1.mp c1
      omega
    · rw [if_neg c1]
      by_cases c2 : sgc (tx (tB tl tx p)) = 2
      · rw [if_pos c2]
        have := sgc2.mp c2
        split <;> omega
      · rw [if_neg c2]
        split <;> omega
  · rw [if_neg c]
    omega
theorem nsg_le : nsg tl tx p ≤ 4 := by
  unfold nsg
  repeat' split
  all_goals omega
/-- what comes of an item -/
def OUT2 (tl : Nat) (tx : Nat → Nat) (p n : Nat) (σ τ : St) (so mo : Option (Int32 × St)) : Prop := (∃ σ' τ' p', so = some (0, σ') ∧ mo = some (1, τ') ∧ RD σ' τ' tl tx p' ∧ p ≤ p' ∧ CR σ' τ' ∧ τ' 0 28 = nI (n + 1) ∧ FSx σ σ' ∧ FMy τ τ') ∨ (∃ σ' τ', so = some (0, σ') ∧ mo = some (0, τ') ∧ FA σ' τ' tl ∧ FSx σ σ' ∧ FMy τ τ')
theorem it_close {n : Nat} {so mo : Option (Int32 × St)} (O : OUT tl tx p σ τ so mo) (h200 : tl ≤ 200) (h28 : τ 0 28 = nI n) : OUT2 tl tx p n σ τ (bd so fun _ s => bd (mX7_readClosing s) fun _ s8 => some (0, s8)) (bd mo fun r s => mX12_readsItem_141 r s) := by
  rcases O with ⟨σ1, τ1, p1, rfl, rfl, R, hpp, C, F, G⟩ | ⟨σ1, τ1, rfl, rfl, A, F, G⟩
  · obtain ⟨TS, TM, h2, h6, M, hp1⟩ := R
    have hE := tE_le tx hp1
    have hB := tB_le tx hp1
    obtain ⟨σ2, b1, b2, b3⟩ := s_close TS h2 h6 hp1
    rw [bd_t, b1, bd_t, bd_t]
    unfold mX12_readsItem_141
    rw [if_neg n10, M.2.1, TM.1]
    rcases b3 with ⟨ok, q2, q6⟩ | ⟨nok, q6⟩
    · obtain ⟨c1, c2⟩ := nsg3.mp ok
      have g := m_token TM M.1 hE.2.1
      have t28 : mT τ1 (tB tl tx (tE tl tx p1)) (tE tl tx (tE tl tx p1)) 0 28 = nI n := by rw [mT_o (by omega), G 0 28 (by omega) (by omega)]; exact h28
      rw [if_neg (show ¬ nI (tB tl tx p1) = nI tl by rw [nI_inj (by omega) (by omega)]; omega), gd_t (ib_nI (by omega) (by decide)), if_pos (show τ1 3 (nx (nI (tB tl tx p1))) = 59 by rw [nx_nI (by omega), TM.2.1 _ c1, c2]; rfl), g, bd_t, t28, li1, nI_add, lt_t]
      left
      refine ⟨σ2, _, tE tl tx p1, rfl, rfl, ⟨b2.txs TS, TM.fr (fun j => by rw [su_o (by omega), mT_o (by omega)]) (by rw [su_o (by omega), mT_o (by omega)]), q2, q6, ⟨by rw [su_o (by omega)]; exact mT_17, by rw [su_o (by omega)]; exact mT_18, by rw [su_o (by omega)]; exact mT_19⟩, hE.2.1⟩, ?_, ?_, su_s, F.tr b2.x, fun i j h1 h2 => by rw [su_o (by omega), mT_o (by omega), G i j (by omega) h2]⟩
      · have := tE_ge (tx := tx) hp1
        omega
      · obtain ⟨w, h, gn, kn, kE, kS, gr, sz, wo, fo, ht, V, C1, D1⟩ := C
        exact ⟨w, h, gn, kn, kE, kS, gr, sz, wo, fo, ht, V, C1.fr (fun i j h1 h2 => b2 i j (by omega)), D1.fr (fun i j hij => by rw [su_o (by omega), mT_o (by omega)])⟩
    · right
      by_cases c : tB tl tx p1 < tl
      · have hcb := TM.2.2.2 _ c
        have c2 : ¬ tx (tB tl tx p1) = 59 := fun q => nok (nsg3.mpr ⟨c, q⟩)
        rw [if_neg (show ¬ nI (tB tl tx p1) = nI tl by rw [nI_inj (by omega) (by omega)]; omega), gd_t (ib_nI (by omega) (by decide)), if_neg (show ¬ τ1 3 (nx (nI (tB tl tx p1))) = 59 by rw [nx_nI (by omega), TM.2.1 _ c, show (59 : Int32) = nI 59 from rfl, nI_inj (by omega) (by decide)]; exact c2)]
        exact ⟨σ2, τ1, rfl, rfl, ⟨_, hB.2, q6, M.2.1⟩, F.tr b2.x, G.y⟩
      · rw [if_pos (by rw [show tB tl tx p1 = tl by omega])]
        exact ⟨σ2, τ1, rfl, rfl, ⟨_, hB.2, q6, M.2.1⟩, F.tr b2.x, G.y⟩
  · rw [bd_t, s_close0 (A.n h200), bd_t, bd_t]
    unfold mX12_readsItem_141
    rw [if_pos rfl]
    exact Or.inr ⟨σ1, τ1, rfl, rfl, A, F, G.y⟩
/-- before an item -/
def PRE (σ τ : St) (tl : Nat) (tx : Nat → Nat) (p n : Nat) : Prop := RD σ τ tl tx p ∧ τ 0 28 = nI n ∧ n ≤ p ∧ (n = 0 → C0S σ ∧ C0M τ) ∧ (0 < n → CR σ τ)
theorem C0S.fr (C : C0S σ) (h : ∀ i j, 18 ≤ i → i ≤ 25 → σ' i j = σ i j) : C0S σ' := ⟨by rw [h _ _ (by omega) (by omega)]; exact C.1, by rw [h _ _ (by omega) (by omega)]; exact C.2.1, fun i hi => by rw [h _ _ (by omega) (by omega), h _ _ (by omega) (by omega)]; exact C.2.2.1 i hi, by rw [h _ _ (by omega) (by omega)]; exact C.2.2.2.1, by rw [h _ _ (by omega) (by omega)]; exact C.2.2.2.2.1, by rw [h _ _ (by omega) (by omega)]; exact C.2.2.2.2.2⟩
theorem C0M.fr (C : C0M τ) (h : ∀ i j, ¬ (i = 0 ∧ 17 ≤ j ∧ j ≤ 19) → τ' i j = τ i j) : C0M τ' := ⟨by rw [h _ _ (by omega)]; exact C.1, by rw [h _ _ (by omega)]; exact C.2.1, by rw [h _ _ (by omega)]; exact C.2.2.1, by rw [h _ _ (by omega)]; exact C.2.2.2.1, fun i hi => by rw [h _ _ (by omega)]; exact C.2.2.2.2.1 i hi, by rw [h _ _ (by omega)]; exact C.2.2.2.2.2.1, by rw [h _ _ (by omega)]; exact C.2.2.2.2.2.2⟩
theorem FMn_T {b e : Nat} : ∀ i j, ¬ (i = 0 ∧ 17 ≤ j ∧ j ≤ 19) → mT τ b e i j = τ i j := fun i j h => mT_o h
/-- an item on both sides -/
theorem item {n : Nat} (Q : PRE σ τ tl tx p n) (hlt : tB tl tx p < tl) : ∃ σ1, mX7_nextToken σ = some (0, σ1) ∧ ¬ σ1 68 4 = 0 ∧ OUT2 tl tx (p + 1) n σ τ (mX7_readItem (if n = 0 then 1 else 0) σ1) (mX12_readsItem τ) := by
  obtain ⟨⟨TS, TM, h2, h6, M, hp⟩, h28, hnp, hC0, hC⟩ := Q
  have h200 := TM.2.2.1
  have hE := tE_le tx hp
  have hB := tB_le tx hp
  have el := hE.2.2 hlt
  obtain ⟨σ1, a1, a2, a3, a4, a5, a6, a7⟩ := s_next TS h2 hp
  rw [h6] at a6
  have hcb := TM.2.2.2 _ hlt
  have ns0 : 0 < nsg tl tx p := by
    unfold nsg
    rw [if_pos hlt]
    repeat' split
    all_goals omega
  have nl := nsg_le (tl := tl) (tx := tx) (p := p)
  refine ⟨σ1, a1, by rw [a4]; exact nI_nz ns0 (by omega), ?_⟩
  -- the reference's sign
  obtain ⟨c, hc⟩ : ∃ c, c = if tE tl tx p - tB tl tx p = 1 then tx (tB tl tx p) else 0 := ⟨_, rfl⟩
  have cl : c < 256 := by rw [hc]; split <;> omega
  have eM : mX12_readsItem τ = mX12_readsItem_26 (nI c) τ := by
    unfold mX12_readsItem
    rw [M.2.2, M.2.1, sub_nI hE.1, hc]
    by_cases q : tE tl tx p - tB tl tx p = 1
    · rw [if_pos (show nI (tE tl tx p - tB tl tx p) = 1 by rw [q]; rfl), gd_t (ib_nI (by omega) (by decide)), nx_nI (by omega), TM.2.1 _ hlt, if_pos q]
    · rw [if_neg (show ¬ nI (tE tl tx p - tB tl tx p) = 1 by rw [show (1 : Int32) = nI 1 from rfl, nI_inj (by omega) (by decide)]; exact q), if_neg q]
      rfl
  rw [eM]
  unfold mX12_readsItem_26 mX12_readsItem_68 mX12_readsItem_82 mX12_readsItem_86
  rw [h28]
  have k : ∀ z : Nat, z < 2 ^ 31 → (nI c = nI z) = (c = z) := fun z hz => nI_inj (by omega) hz
  simp only [show (103 : Int32) = nI 103 from rfl, show (107 : Int32) = nI 107 from rfl, show (111 : Int32) = nI 111 from rfl, show (99 : Int32) = nI 99 from rfl, k 103 (by decide), k 107 (by decide), k 111 (by decide), k 99 (by decide)]
  have z87 : ∀ v, mX12_readsItem_87 v 0 τ = some (0, τ) := fun v => by unfold mX12_readsItem_87; rw [if_pos rfl]
  have FAIL : OUT2 tl tx (p + 1) n σ τ (some (0, s_up σ1 68 6 (nI (tB tl tx p)))) (some (0, τ)) := Or.inr ⟨_, _, rfl, rfl, ⟨tB tl tx p, hB.2, su_s, M.2.1⟩, fun i j h1 h2 => by rw [su_o (by omega), a7 i j h2], fun _ _ _ _ => rfl⟩
  have sfail : mX7_fail σ1 = some (0, s_up σ1 68 6 (nI (tB tl tx p))) := s_fail a6 a3
  have sclose : mX7_readClosing (s_up σ1 68 6 (nI (tB tl tx p))) = some (0, s_up σ1 68 6 (nI (tB tl tx p))) := s_close0 (by rw [su_s]; exact nI_m1 (by omega))
  -- go on with the next word
  obtain ⟨τ1, hτ1⟩ : ∃ τ1, τ1 = mT τ (tB tl tx (tE tl tx p)) (tE tl tx (tE tl tx p)) := ⟨_, rfl⟩
  have g : mX12_token τ = some (0, τ1) := by rw [hτ1]; exact m_token TM M.1 hE.2.1
  have fT : ∀ i j, ¬ (i = 0 ∧ 17 ≤ j ∧ j ≤ 19) → τ1 i j = τ i j := fun i j hij => by rw [hτ1]; exact mT_o hij
  have R1 : RD σ1 τ1 tl tx (tE tl tx p) := ⟨a7.txs TS, TM.fr (fun j => fT 3 j (by omega)) (fT 0 3 (by omega)), a2, a6, by rw [hτ1]; exact ⟨mT_17, mT_18, mT_19⟩, hE.2.1⟩
  have m28 : τ1 0 28 = nI n := by rw [fT 0 28 (by omega)]; exact h28
  have up : ∀ so mo, OUT tl tx (tE tl tx p) σ1 τ1 so mo → OUT2 tl tx (p + 1) n σ τ (bd so fun _ s => bd (mX7_readClosing s) fun _ s8 => some (0, s8)) (bd mo fun r s => mX12_readsItem_141 r s) := by
    intro so mo O
    rcases it_close O h200 m28 with ⟨σ2, τ2, p2, q1, q2, q3, q4, q5, q6, q7, q8⟩ | ⟨σ2, τ2, q1, q2, q3, q7, q8⟩
    · exact Or.inl ⟨σ2, τ2, p2, q1, q2, q3, by omega, q5, q6, a7.x.tr q7, fun i j h1 h2 => by rw [q8 i j h1 h2, fT i j (by omega)]⟩
    · exact Or.inr ⟨σ2, τ2, q1, q2, q3, a7.x.tr q7, fun i j h1 h2 => by rw [q8 i j h1 h2, fT i j (by omega)]⟩
  have CRc : CR σ τ → CR σ1 τ1 := fun ⟨w, h, gn, kn, kE, kS, gr, sz, wo, fo, ht, V, C1, D1⟩ => ⟨w, h, gn, kn, kE, kS, gr, sz, wo, fo, ht, V, C1.fr (fun i j h1 h2 => a7 i j (by omega)), D1.fr (fun i j hij => fT i j (by omega))⟩
  have M87 : ∀ v : Nat, v < 2 ^ 31 → mX12_readsItem_87 (nI v) 1 τ = if v = 103 then (bd (mX12_readsHeights τ1) fun r s => mX12_readsItem_141 r s) else if v = 107 then (bd (mX12_readsKerb τ1) fun r s => mX12_readsItem_141 r s) else if v = 111 then (bd (mX12_readsGrating τ1) fun r s => mX12_readsItem_141 r s) else (bd (mX12_readsKind τ1) fun r s => mX12_readsItem_141 r s) := by
    intro v hv
    unfold mX12_readsItem_87
    rw [if_neg n10, g, bd_t]
    simp only [show (103 : Int32) = nI 103 from rfl, show (107 : Int32) = nI 107 from rfl, show (111 : Int32) = nI 111 from rfl, nI_inj hv (show 103 < 2 ^ 31 by decide), nI_inj hv (show 107 < 2 ^ 31 by decide), nI_inj hv (show 111 < 2 ^ 31 by decide)]
  by_cases L : sgc (tx (tB tl tx p)) = 1
  · have ns : nsg tl tx p = 1 := by unfold nsg; rw [if_pos hlt, if_pos L]
    have nv : nvl tl tx p = c := by unfold nvl; rw [if_pos L, hc]
    have v5 := a5 (Or.inl ns)
    rw [nv] at v5
    have S0 : ∀ f : Int32, mX7_readItem f σ1 = if c = 103 then mX7_readItem_23 1 f σ1 else mX7_readItem_23 0 f σ1 := by
      intro f
      unfold mX7_readItem
      rw [a4, ns, if_pos (show nI 1 = 1 from rfl), v5]
      simp only [show (103 : Int32) = nI 103 from rfl, k 103 (by decide)]
    have S1 : ∀ f : Int32, mX7_readItem_23 f f σ1 = if c = 99 then (bd (mX7_readKind σ1) fun _ s => bd (mX7_readClosing s) fun _ s8 => some (0, s8)) else if c = 103 then (bd (mX7_readGround σ1) fun _ s => bd (mX7_readClosing s) fun _ s8 => some (0, s8)) else if c = 107 then (bd (mX7_readKerb σ1) fun _ s => bd (mX7_readClosing s) fun _ s8 => some (0, s8)) else if c = 111 then (bd (mX7_readGrating σ1) fun _ s => bd (mX7_readClosing s) fun _ s8 => some (0, s8)) else some (0, s_up σ1 68 6 (nI (tB tl tx p))) := by
      intro f
      unfold mX7_readItem_23
      rw [if_pos rfl, v5]
      simp only [show (103 : Int32) = nI 103 from rfl, show (107 : Int32) = nI 107 from rfl, show (111 : Int32) = nI 111 from rfl, show (99 : Int32) = nI 99 from rfl, k 103 (by decide), k 107 (by decide), k 111 (by decide), k 99 (by decide), sfail, bd_t, sclose]
    have S2 : ∀ f f' : Int32, ¬ f' = f → mX7_readItem_23 f f' σ1 = some (0, s_up σ1 68 6 (nI (tB tl tx p))) := by
      intro f f' hf
      unfold mX7_readItem_23
      rw [if_neg hf, sfail, bd_t]
    rw [S0]
    by_cases n0 : n = 0
    · subst n0
      rw [if_pos (show nI 0 = 0 from rfl), if_pos rfl]
      by_cases c3 : c = 103
      · rw [if_pos c3, if_pos c3, S1, if_neg (show ¬ c = 99 by omega), if_pos c3, M87 c (by omega), if_pos c3]
        obtain ⟨C0, D0⟩ := hC0 rfl
        exact up _ _ (it_ground R1 (C0.fr (fun i j h1 h2 => a7 i j (by omega))) (D0.fr fT))
      · rw [if_neg c3, if_neg c3, S2 0 1 (by decide), z87]
        exact FAIL
    · have CC := CRc (hC (by omega))
      obtain ⟨w, h, gn, kn, kE, kS, gr, sz, wo, fo, ht, V, C1, D1⟩ := CC
      have e25 : τ 0 25 = nI gn := by rw [← fT 0 25 (by omega)]; exact D1.2.2.1
      have e26 : τ 0 26 = nI kn := by rw [← fT 0 26 (by omega)]; exact D1.2.2.2.1
      have g4 := V.2.2.2.2.2.2.1
      have k5 := V.2.2.2.2.2.2.2.1
      rw [if_neg (show ¬ nI n = 0 by rw [li0, nI_inj (by omega) (by decide)]; exact n0), if_neg n0, e25, e26]
      simp only [show (4 : Int32) = nI 4 from rfl, show (5 : Int32) = nI 5 from rfl, nI_ltp (show gn < 2 ^ 31 by omega) (show 4 < 2 ^ 31 by decide), nI_ltp (show kn < 2 ^ 31 by omega) (show 5 < 2 ^ 31 by decide), z87, M87 c (by omega)]
      by_cases c3 : c = 103
      · rw [if_pos c3, S2 1 0 (by decide), if_neg (show ¬ c = 107 by omega), if_neg (show ¬ c = 111 by omega), if_neg (show ¬ c = 99 by omega)]
        exact FAIL
      · rw [if_neg c3, S1, if_neg c3]
        by_cases c7 : c = 107
        · rw [if_pos c7, if_neg (show ¬ c = 99 by omega), if_pos c7, if_neg c3, if_pos c7]
          exact up _ _ (it_kerb R1 V C1 D1)
        · rw [if_neg c7, if_neg c7, if_neg c3, if_neg c7]
          by_cases c11 : c = 111
          · rw [if_pos c11, if_neg (show ¬ c = 99 by omega), if_pos c11, if_pos c11]
            by_cases q4 : gn < 4
            · rw [if_pos q4]
              exact up _ _ (it_grating R1 V C1 D1 q4)
            · rw [if_neg q4, if_neg (show ¬ c = 99 by omega)]
              have : mX7_readGrating σ1 = some (0, s_up σ1 68 6 (nI (tB tl tx p))) := by
                unfold mX7_readGrating
                rw [C1.2.2.2.1, if_neg (show ¬ nI gn < 4 from nI_nlt (b := 4) (by omega) (by omega)), sfail, bd_t]
              rw [this, bd_t, sclose, bd_t]
              exact FAIL
          · rw [if_neg c11, if_neg c11, if_neg c11]
            by_cases c99 : c = 99
            · rw [if_pos c99, if_pos c99]
              by_cases q5 : kn < 5
              · rw [if_pos q5]
                exact up _ _ (it_kind R1 V C1 D1 q5)
              · rw [if_neg q5]
                have : mX7_readKind σ1 = some (0, s_up σ1 68 6 (nI (tB tl tx p))) := by
                  unfold mX7_readKind
                  rw [C1.2.2.2.2.1, if_neg (show ¬ nI kn < 5 from nI_nlt (b := 5) (by omega) (by omega)), sfail, bd_t]
                rw [this, bd_t, sclose, bd_t]
                exact FAIL
            · rw [if_neg c99, if_neg c99]
              exact FAIL
  · have nl1 : ¬ nsg tl tx p = 1 := by
      unfold nsg
      rw [if_pos hlt, if_neg L]
      repeat' split
      all_goals omega
    have cn : c ≠ 103 ∧ c ≠ 107 ∧ c ≠ 111 ∧ c ≠ 99 := by
      have : ∀ z, 97 ≤ z → z ≤ 122 → c ≠ z := by
        intro z z1 z2 e
        apply L
        rw [hc] at e
        split at e
        · rw [e]; exact sgc1.mpr ⟨z1, z2⟩
        · omega
      exact ⟨this 103 (by omega) (by omega), this 107 (by omega) (by omega), this 111 (by omega) (by omega), this 99 (by omega) (by omega)⟩
    have S : ∀ f : Int32, mX7_readItem f σ1 = some (0, s_up σ1 68 6 (nI (tB tl tx p))) := by
      intro f
      unfold mX7_readItem
      rw [a4, if_neg (show ¬ nI (nsg tl tx p) = 1 by rw [show (1 : Int32) = nI 1 from rfl, nI_inj (by omega) (by decide)]; exact nl1), sfail, bd_t]
    rw [S, if_neg cn.1, if_neg cn.2.1, if_neg cn.2.2.1, if_neg cn.2.2.2, z87]
    rw [show (if nI n = 0 then some ((0 : Int32), τ) else some (0, τ)) = some (0, τ) by split <;> rfl]
    exact FAIL
/-- the whole text -/
theorem text_loop : ∀ (m N N' n p : Nat) (σ τ : St), p + m = tl + 1 → PRE σ τ tl tx p n → (∃ σ' τ' r, mX7_readText_35 mX7_readText_80 (N + m + 1) (nI n) (nI n) σ = some (nI r, σ') ∧ mX12_fault_71 mX12_fault_94 (N' + m + 1) 1 τ = some (-9, τ') ∧ τ' 0 28 = nI r ∧ r ≤ 200 ∧ (r = 0 → C0S σ' ∧ C0M τ') ∧ (0 < r → CR σ' τ') ∧ FSx σ σ' ∧ FMy τ τ') ∨ (∃ σ' τ' q, q ≤ tl ∧ mX7_readText_35 mX7_readText_80 (N + m + 1) (nI n) (nI n) σ = some (-10 - nI q, σ') ∧ mX12_fault_71 mX12_fault_94 (N' + m + 1) 1 τ = some (nI q, τ') ∧ FSx σ σ' ∧ FMy τ τ')
  | 0, N, N', n, p, σ, τ, e, Q => by have := Q.1.2.2.2.2.2; omega
  | m + 1, N, N', n, p, σ, τ, e, Q => by
    obtain ⟨⟨TS, TM, h2, h6, M, hp⟩, h28, hnp, hC0, hC⟩ := Q
    have h200 := TM.2.2.1
    have hB := tB_le tx hp
    rw [show N + (m + 1) + 1 = (N + m + 1) + 1 from rfl, mX7_readText_35, if_neg (show ¬ 200 < nI n from nI_nlt (a := 200) (by omega) (by omega)), show N' + (m + 1) + 1 = (N' + m + 1) + 1 from rfl, mX12_fault_71, if_neg n10, M.2.1, TM.1]
    by_cases c : tB tl tx p < tl
    · obtain ⟨σ1, a1, a2, O⟩ := item ⟨⟨TS, TM, h2, h6, M, hp⟩, h28, hnp, hC0, hC⟩ c
      have eS : ∀ x : Option (Int32 × St), (if nI n = 0 then mX7_readText_69 mX7_readText_80 (mX7_readText_35 mX7_readText_80 (N + m + 1)) (nI n) (nI n) 1 σ1 else mX7_readText_69 mX7_readText_80 (mX7_readText_35 mX7_readText_80 (N + m + 1)) (nI n) (nI n) 0 σ1) = mX7_readText_69 mX7_readText_80 (mX7_readText_35 mX7_readText_80 (N + m + 1)) (nI n) (nI n) (if n = 0 then 1 else 0) σ1 := by
        intro _
        simp only [li0, nI_inj (show n < 2 ^ 31 by omega) (show 0 < 2 ^ 31 by decide)]
        by_cases q : n = 0
        · rw [if_pos q, if_pos q]
        · rw [if_neg q, if_neg q]
      rw [a1, bd_t, if_neg a2, eS none, if_pos (nI_lt c (by omega))]
      unfold mX7_readText_69
      rcases O with ⟨σ2, τ2, p2, q1, q2, q3, q4, q5, q6, q7, q8⟩ | ⟨σ2, τ2, q1, q2, q3, q7, q8⟩
      · rw [q1, bd_t, q3.2.2.2.1, if_pos rfl, lt_t, lt_t, q2, bd_t, show nI n + 1 = nI (n + 1) by rw [li1, nI_add]]
        have hp2 := q3.2.2.2.2.2
        obtain ⟨m', rfl⟩ : ∃ m', m = m' + (p2 - p - 1) := ⟨m - (p2 - p - 1), by omega⟩
        have IH := text_loop m' (N + (p2 - p - 1)) (N' + (p2 - p - 1)) (n + 1) p2 σ2 τ2 (by omega) ⟨q3, q6, by omega, fun z => by omega, fun _ => q5⟩
        rw [show N + (p2 - p - 1) + m' + 1 = N + (m' + (p2 - p - 1)) + 1 by omega, show N' + (p2 - p - 1) + m' + 1 = N' + (m' + (p2 - p - 1)) + 1 by omega] at IH
        rcases IH with ⟨σ3, τ3, r, d1, d2, d3, d4, d5, d6, d7, d8⟩ | ⟨σ3, τ3, q, d1, d2, d3, d7, d8⟩
        · exact Or.inl ⟨σ3, τ3, r, d1, d2, d3, d4, d5, d6, q7.tr d7, q8.tr d8⟩
        · exact Or.inr ⟨σ3, τ3, q, d1, d2, d3, q7.tr d7, q8.tr d8⟩
      · obtain ⟨q, f1, f2, f3⟩ := q3
        rw [q1, bd_t, if_neg (show ¬ σ2 68 6 = -1 by rw [f2]; exact nI_m1 (by omega)), q2, bd_t]
        right
        refine ⟨σ2, τ2, q, f1, ?_, ?_, q7, q8⟩
        · unfold mX7_readText_80
          rw [f2]
        · rw [show N' + m + 1 = (N' + m) + 1 from rfl, mX12_fault_71, if_pos rfl]
          unfold mX12_fault_94
          rw [if_pos rfl, f3]
    · obtain ⟨σ1, a1, a2, a3, a4, a5, a6, a7⟩ := s_next TS h2 hp
      have ns : nsg tl tx p = 0 := by unfold nsg; rw [if_neg c]
      rw [a1, bd_t, a4, ns, if_pos (show nI 0 = 0 from rfl), if_neg (nI_nlt (by omega) (by omega))]
      left
      refine ⟨σ1, τ, n, rfl, ?_, h28, by omega, fun z => ⟨(hC0 z).1.fr (fun i j h1 h2 => a7 i j (by omega)), (hC0 z).2⟩, fun z => ?_, a7.x, fun _ _ _ _ => rfl⟩
      · unfold mX12_fault_94
        rw [if_neg n10]
      · obtain ⟨w, h, gn, kn, kE, kS, gr, sz, wo, fo, ht, V, C1, D1⟩ := hC z
        exact ⟨w, h, gn, kn, kE, kS, gr, sz, wo, fo, ht, V, C1.fr (fun i j h1 h2 => a7 i j (by omega)), D1⟩
end

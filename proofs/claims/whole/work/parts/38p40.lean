/-! pure: words and numbers on both sides -/
def nsg (tl : Nat) (tx : Nat → Nat) (p : Nat) : Nat := if tB tl tx p < tl then (if sgc (tx (tB tl tx p)) = 1 then 1 else if sgc (tx (tB tl tx p)) = 2 then (if tE tl tx p - tB tl tx p = 1 ∨ (tE tl tx p - tB tl tx p = 2 ∧ tx (tB tl tx p) ≠ 48) then 2 else 4) else if tx (tB tl tx p) = 59 then 3 else 4) else 0
def nvl (tl : Nat) (tx : Nat → Nat) (p : Nat) : Nat := if sgc (tx (tB tl tx p)) = 1 then (if tE tl tx p - tB tl tx p = 1 then tx (tB tl tx p) else 0) else if tE tl tx p - tB tl tx p = 1 then tx (tB tl tx p) - 48 else 10 * (tx (tB tl tx p) - 48) + tx (tB tl tx p + 1) - 48
theorem sgc_le (c : Nat) : sgc c ≤ 2 := by unfold sgc; split <;> (try split) <;> omega
theorem sgc2 {c : Nat} : sgc c = 2 ↔ (48 ≤ c ∧ c ≤ 57) := by unfold sgc; split <;> (try split) <;> omega
theorem sgc1 {c : Nat} : sgc c = 1 ↔ (97 ≤ c ∧ c ≤ 122) := by unfold sgc; split <;> (try split) <;> omega
theorem sgS_of (c : Nat) : sgS c = if sgc c = 1 then 1 else if sgc c = 2 then 2 else if c = 59 then 3 else 4 := by
  unfold sgS
  by_cases c1 : 97 ≤ c ∧ c ≤ 122
  · rw [if_pos c1, if_pos (sgc1.mpr c1)]
  · rw [if_neg c1, if_neg (fun q => c1 (sgc1.mp q))]
    by_cases c2 : 48 ≤ c ∧ c ≤ 57
    · rw [if_pos c2, if_pos (sgc2.mpr c2)]
    · rw [if_neg c2, if_neg (fun q => c2 (sgc2.mp q))]
theorem alp_s {tx : Nat → Nat} {s m q : Nat} (h : q < alp tx s m q) : sgc (tx q) = s := by
  cases m with
  | zero => exact absurd h (Nat.lt_irrefl q)
  | succ m =>
    unfold alp at h
    split at h
    · assumption
    · omega
section
variable {σ τ σ' τ' : St} {tl p b e : Nat} {tx : Nat → Nat}
theorem two_dig (hp : p ≤ tl) (hb : tB tl tx p < tl) (hs : sgc (tx (tB tl tx p)) = 2) (hl : ¬ tE tl tx p - tB tl tx p = 1) : tB tl tx p + 1 < tl ∧ 48 ≤ tx (tB tl tx p + 1) ∧ tx (tB tl tx p + 1) ≤ 57 ∧ 2 ≤ tE tl tx p - tB tl tx p := by
  obtain ⟨e1, e2, e3⟩ := tE_le tx hp
  have e3 := e3 hb
  have et : tE tl tx p = alp tx (sgc (tx (tB tl tx p))) (tl - (tB tl tx p + 1)) (tB tl tx p + 1) := by unfold tE; rw [if_pos hb, if_neg (by omega)]
  have q := alp_s (tx := tx) (s := sgc (tx (tB tl tx p))) (m := tl - (tB tl tx p + 1)) (q := tB tl tx p + 1) (by rw [← et]; omega)
  rw [hs] at q
  have := sgc2.mp q
  omega
/-- only the reader changes -/
def F68 (σ σ' : St) : Prop := ∀ i j, ¬ (i = 68 ∧ 2 ≤ j) → σ' i j = σ i j
theorem F68.tr {a b c : St} (h : F68 a b) (k : F68 b c) : F68 a c := fun i j h1 => by rw [k i j h1, h i j h1]
theorem F68.rfl' (a : St) : F68 a a := fun _ _ _ => rfl
theorem F68.txs (F : F68 σ σ') (T : TXS σ tl tx) : TXS σ' tl tx := T.fr (fun j => F 1 j (by omega)) (F 68 0 (by omega)) (F 68 1 (by omega))
theorem s_next (T : TXS σ tl tx) (h : σ 68 2 = nI p) (hp : p ≤ tl) : ∃ σ', mX7_nextToken σ = some (0, σ') ∧ σ' 68 2 = nI (tE tl tx p) ∧ σ' 68 3 = nI (tB tl tx p) ∧ σ' 68 4 = nI (nsg tl tx p) ∧ (nsg tl tx p = 1 ∨ nsg tl tx p = 2 → σ' 68 5 = nI (nvl tl tx p)) ∧ σ' 68 6 = σ 68 6 ∧ F68 σ σ' := by
  have h200 := T.2.2.2.1
  obtain ⟨b1, b2⟩ := tB_le tx hp
  obtain ⟨e1, e2, e3⟩ := tE_le tx hp
  obtain ⟨b, hb⟩ : ∃ b, b = tB tl tx p := ⟨_, rfl⟩
  obtain ⟨e, he⟩ : ∃ e, e = tE tl tx p := ⟨_, rfl⟩
  obtain ⟨σ1, hσ1⟩ : ∃ σ1, σ1 = s_up (s_up (s_up σ 68 2 (nI b)) 68 3 (nI b)) 68 5 0 := ⟨_, rfl⟩
  have f1 : ∀ i j, ¬ (i = 68 ∧ 2 ≤ j ∧ j ≤ 5) → σ1 i j = σ i j := fun i j hij => by rw [hσ1, su_o (by omega), su_o (by omega), su_o (by omega)]
  have g2 : σ1 68 2 = nI b := by rw [hσ1, su_o (by omega), su_o (by omega), su_s]
  have g3 : σ1 68 3 = nI b := by rw [hσ1, su_o (by omega), su_s]
  have T1 : TXS σ1 tl tx := T.fr (fun j => f1 1 j (by omega)) (f1 68 0 (by omega)) (f1 68 1 (by omega))
  have st : mX7_nextToken σ = bd (mX7_signAt (nI b) σ1) (fun r6 s7 => lt (s_up s7 68 4 r6) fun s9 => if (s9 68 4) = 0 then (some (0, s9)) else (lt (s_up s9 68 2 ((s9 68 2) + 1)) fun s10 => if (s10 68 4) = 1 then (mX7_nextToken_63 s10) else (if (s10 68 4) = 2 then (mX7_nextToken_63 s10) else (mX7_nextToken_68 0 s10)))) := by
    unfold mX7_nextToken
    rw [s_skip T h hp, bd_t, lt_t, su_s, lt_t, ← hb, ← hσ1, g2]
  rw [st, ← hb, ← he]
  rw [← hb] at b1 b2 e1 e3
  rw [← he] at e1 e2 e3
  by_cases c : b < tl
  · have hcb := T.2.2.2.2 b c
    have el := e3 c
    rw [s_sign T1 c, bd_t, lt_t, su_s, sgS_of]
    have tlen : nI e - nI b = nI (e - b) := sub_nI e1
    by_cases c1 : sgc (tx b) = 1
    · have ns : nsg tl tx p = 1 := by unfold nsg; rw [← hb, if_pos c, if_pos c1]
      have nv : nvl tl tx p = if e - b = 1 then tx b else 0 := by unfold nvl; rw [← hb, ← he, if_pos c1]
      have et : e = alp tx 1 (tl - (b + 1)) (b + 1) := by rw [he]; unfold tE; rw [← hb, if_pos c, c1, if_neg (by omega)]
      rw [if_pos c1, if_neg (by decide), lt_t, su_o (by omega), su_s, if_pos (show nI 1 = 1 from rfl), su_o (by omega), g2, li1, nI_add]
      unfold mX7_nextToken_63 mX7_nextToken_68
      have L := s_alike_loop (tl := tl) (tx := tx) (Or.inl rfl) mX7_nextToken_115 n10 (tl - (b + 1)) (19999 - (tl - (b + 1))) (b + 1) (s_up (s_up σ1 68 4 (nI 1)) 68 2 (nI (b + 1))) (T1.fr (fun j => by rw [su_o (by omega), su_o (by omega)]) (by rw [su_o (by omega), su_o (by omega)]) (by rw [su_o (by omega), su_o (by omega)])) su_s (by rw [su_o (by omega), su_s]) (by omega)
      rw [show 19999 - (tl - (b + 1)) + (tl - (b + 1)) + 1 = FU by unfold FU; omega, su_su, ← et] at L
      obtain ⟨σ2, hσ2⟩ : ∃ σ2, σ2 = s_up (s_up σ1 68 4 (nI 1)) 68 2 (nI e) := ⟨_, rfl⟩
      have f2 : ∀ i j, ¬ (i = 68 ∧ 2 ≤ j ∧ j ≤ 5) → σ2 i j = σ i j := fun i j hij => by rw [hσ2, su_o (by omega), su_o (by omega), f1 i j hij]
      have k2 : σ2 68 2 = nI e := by rw [hσ2, su_s]
      have k3 : σ2 68 3 = nI b := by rw [hσ2, su_o (by omega), su_o (by omega)]; exact g3
      have k4 : σ2 68 4 = nI 1 := by rw [hσ2, su_o (by omega), su_s]
      rw [L, ← hσ2]
      unfold mX7_nextToken_115
      rw [k2, k3, tlen]
      unfold mX7_weigh
      rw [k4, if_pos (show nI 1 = 1 from rfl), k3]
      simp only [show (1 : Int32) = nI 1 from rfl, nI_inj (show e - b < 2 ^ 31 by omega) (show 1 < 2 ^ 31 by decide)]
      by_cases cl : e - b = 1
      · rw [if_pos cl, gd_t (by rw [f2 68 0 (by omega), T.1]; decide), gd_t (ib_nI (by omega) (by decide)), nx_nI (by omega), f2 1 b (by omega), T.2.2.1 b c, lt_t, bd_t]
        refine ⟨_, rfl, by rw [su_o (by omega)]; exact k2, by rw [su_o (by omega)]; exact k3, by rw [su_o (by omega), ns]; exact k4, fun _ => by rw [su_s, nv, if_pos cl], by rw [su_o (by omega), f2 68 6 (by omega)], fun i j hij => by rw [su_o (by omega), f2 i j (by omega)]⟩
      · rw [if_neg cl, lt_t, bd_t]
        refine ⟨_, rfl, by rw [su_o (by omega)]; exact k2, by rw [su_o (by omega)]; exact k3, by rw [su_o (by omega), ns]; exact k4, fun _ => by rw [su_s, nv, if_neg cl]; rfl, by rw [su_o (by omega), f2 68 6 (by omega)], fun i j hij => by rw [su_o (by omega), f2 i j (by omega)]⟩
    · by_cases c2 : sgc (tx b) = 2
      · have ns : nsg tl tx p = if e - b = 1 ∨ (e - b = 2 ∧ tx b ≠ 48) then 2 else 4 := by unfold nsg; rw [← hb, ← he, if_pos c, if_neg c1, if_pos c2]
        have nv : nvl tl tx p = if e - b = 1 then tx b - 48 else 10 * (tx b - 48) + tx (b + 1) - 48 := by unfold nvl; rw [← hb, ← he, if_neg c1]
        have et : e = alp tx 2 (tl - (b + 1)) (b + 1) := by rw [he]; unfold tE; rw [← hb, if_pos c, c2, if_neg (by omega)]
        have d2 := sgc2.mp c2
        rw [if_neg c1, if_pos c2, if_neg (by decide), lt_t, su_o (by omega), su_s, if_neg (show ¬ nI 2 = 1 by decide), if_pos (show nI 2 = 2 from rfl), su_o (by omega), g2, li1, nI_add]
        unfold mX7_nextToken_63 mX7_nextToken_68
        have L := s_alike_loop (tl := tl) (tx := tx) (Or.inr rfl) mX7_nextToken_115 n10 (tl - (b + 1)) (19999 - (tl - (b + 1))) (b + 1) (s_up (s_up σ1 68 4 (nI 2)) 68 2 (nI (b + 1))) (T1.fr (fun j => by rw [su_o (by omega), su_o (by omega)]) (by rw [su_o (by omega), su_o (by omega)]) (by rw [su_o (by omega), su_o (by omega)])) su_s (by rw [su_o (by omega), su_s]) (by omega)
        rw [show 19999 - (tl - (b + 1)) + (tl - (b + 1)) + 1 = FU by unfold FU; omega, su_su, ← et] at L
        obtain ⟨σ2, hσ2⟩ : ∃ σ2, σ2 = s_up (s_up σ1 68 4 (nI 2)) 68 2 (nI e) := ⟨_, rfl⟩
        have f2 : ∀ i j, ¬ (i = 68 ∧ 2 ≤ j ∧ j ≤ 5) → σ2 i j = σ i j := fun i j hij => by rw [hσ2, su_o (by omega), su_o (by omega), f1 i j hij]
        have k2 : σ2 68 2 = nI e := by rw [hσ2, su_s]
        have k3 : σ2 68 3 = nI b := by rw [hσ2, su_o (by omega), su_o (by omega)]; exact g3
        have k4 : σ2 68 4 = nI 2 := by rw [hσ2, su_o (by omega), su_s]
        have k0 : ¬ σ2 68 0 = 0 := by rw [f2 68 0 (by omega), T.1]; decide
        have kb : σ2 1 b = nI (tx b) := by rw [f2 1 b (by omega)]; exact T.2.2.1 b c
        rw [L, ← hσ2]
        unfold mX7_nextToken_115
        rw [k2, k3, tlen]
        unfold mX7_weigh
        rw [k4, if_neg (show ¬ nI 2 = 1 by decide), if_pos (show nI 2 = 2 from rfl), k3, gd_t k0, gd_t (ib_nI (by omega) (by decide))]
        simp only [show (1 : Int32) = nI 1 from rfl, nI_inj (show e - b < 2 ^ 31 by omega) (show 1 < 2 ^ 31 by decide), nx_nI (show b < 2 ^ 31 by omega), kb, show (48 : Int32) = nI 48 from rfl, sub_nI d2.1]
        by_cases cl : e - b = 1
        · rw [if_pos cl, lt_t, bd_t]
          rw [if_pos (Or.inl cl)] at ns
          rw [if_pos cl] at nv
          refine ⟨_, rfl, by rw [su_o (by omega)]; exact k2, by rw [su_o (by omega)]; exact k3, by rw [su_o (by omega), ns]; exact k4, fun _ => by rw [su_s, nv], by rw [su_o (by omega), f2 68 6 (by omega)], fun i j hij => by rw [su_o (by omega), f2 i j (by omega)]⟩
        · have td := two_dig hp (by rw [← hb]; exact c) (by rw [← hb]; exact c2) (by rw [← hb, ← he]; exact cl)
          rw [← hb, ← he] at td
          have kb1 : σ2 1 (b + 1) = nI (tx (b + 1)) := by rw [f2 1 (b + 1) (by omega)]; exact T.2.2.1 (b + 1) td.1
          rw [if_neg cl]
          unfold mX7_weigh_65
          rw [k4, if_pos (show nI 2 = 2 from rfl), gd_t k0, k3, gd_t (ib_nI (by omega) (by decide)), gd_t k0, show nI b + 1 = nI (b + 1) by rw [li1, nI_add], gd_t (ib_nI (by omega) (by decide)), nx_nI (show b < 2 ^ 31 by omega), nx_nI (show b + 1 < 2 ^ 31 by omega), kb, kb1, show (48 : Int32) = nI 48 from rfl, sub_nI d2.1, li10, pk_mul, nI_add, sub_nI (by omega), lt_t]
          rw [if_neg cl] at nv
          obtain ⟨σ3, hσ3⟩ : ∃ σ3, σ3 = s_up σ2 68 5 (nI (10 * (tx b - 48) + tx (b + 1) - 48)) := ⟨_, rfl⟩
          have m3 : σ3 68 3 = nI b := by rw [hσ3, su_o (by omega)]; exact k3
          have mb : σ3 1 b = nI (tx b) := by rw [hσ3, su_o (by omega)]; exact kb
          have m0 : ¬ σ3 68 0 = 0 := by rw [hσ3, su_o (by omega)]; exact k0
          rw [← hσ3, show (2 : Int32) = nI 2 from rfl, gd_t m0, m3, gd_t (ib_nI (by omega) (by decide))]
          simp only [nx_nI (show b < 2 ^ 31 by omega), mb, nI_ltp (show 2 < 2 ^ 31 by decide) (show e - b < 2 ^ 31 by omega), nI_inj (show tx b < 2 ^ 31 by omega) (show 48 < 2 ^ 31 by decide)]
          have F : ∀ v : Int32, (s_up σ3 68 4 v) 68 2 = nI e ∧ (s_up σ3 68 4 v) 68 3 = nI b ∧ (s_up σ3 68 4 v) 68 5 = nI (nvl tl tx p) ∧ (s_up σ3 68 4 v) 68 6 = σ 68 6 ∧ F68 σ (s_up σ3 68 4 v) := by
            intro v
            refine ⟨by rw [su_o (by omega), hσ3, su_o (by omega)]; exact k2, by rw [su_o (by omega)]; exact m3, by rw [su_o (by omega), hσ3, su_s, nv], by rw [su_o (by omega), hσ3, su_o (by omega), f2 68 6 (by omega)], fun i j hij => by rw [su_o (by omega), hσ3, su_o (by omega), f2 i j (by omega)]⟩
          by_cases c3 : 2 < e - b
          · rw [if_pos c3, lt_t, bd_t]
            rw [if_neg (by omega)] at ns
            exact ⟨_, rfl, (F 4).1, (F 4).2.1, by rw [su_s, ns]; rfl, fun _ => (F 4).2.2.1, (F 4).2.2.2.1, (F 4).2.2.2.2⟩
          · rw [if_neg c3]
            by_cases c4 : tx b = 48
            · rw [if_pos c4, lt_t, bd_t]
              rw [if_neg (by omega)] at ns
              exact ⟨_, rfl, (F 4).1, (F 4).2.1, by rw [su_s, ns]; rfl, fun _ => (F 4).2.2.1, (F 4).2.2.2.1, (F 4).2.2.2.2⟩
            · rw [if_neg c4, lt_t, bd_t]
              rw [if_pos (by omega)] at ns
              exact ⟨_, rfl, (F _).1, (F _).2.1, by rw [su_s, ns], fun _ => (F _).2.2.1, (F _).2.2.2.1, (F _).2.2.2.2⟩
      · have et : e = b + 1 := by
          have : sgc (tx b) = 0 := by have := sgc_le (tx b); omega
          rw [he]; unfold tE; rw [← hb, if_pos c, if_pos this]
        have ns : nsg tl tx p = if tx b = 59 then 3 else 4 := by unfold nsg; rw [← hb, if_pos c, if_neg c1, if_neg c2]
        rw [if_neg c1, if_neg c2, ← ns]
        have n34 : nsg tl tx p = 3 ∨ nsg tl tx p = 4 := by rw [ns]; split <;> omega
        have z0 : ¬ nI (nsg tl tx p) = 0 := nI_nz (by omega) (by omega)
        have z1' : ¬ nI (nsg tl tx p) = 1 := by rcases n34 with q | q <;> rw [q] <;> decide
        have z2 : ¬ nI (nsg tl tx p) = 2 := by rcases n34 with q | q <;> rw [q] <;> decide
        rw [if_neg z0, lt_t, su_o (by omega), su_s, if_neg z1', if_neg z2, su_o (by omega), g2, li1, nI_add, ← et]
        unfold mX7_nextToken_68
        rw [show FU = 19999 + 1 from rfl, s_alike_none]
        unfold mX7_nextToken_115 mX7_weigh mX7_weigh_65
        rw [show s_up (s_up σ1 68 4 (nI (nsg tl tx p))) 68 2 (nI e) 68 4 = nI (nsg tl tx p) by rw [su_o (by omega), su_s], if_neg z1', if_neg z2, if_neg z2, bd_t]
        refine ⟨_, rfl, su_s, by rw [su_o (by omega), su_o (by omega)]; exact g3, by rw [su_o (by omega), su_s], fun q => by omega, by rw [su_o (by omega), su_o (by omega), f1 68 6 (by omega)], fun i j hij => by rw [su_o (by omega), su_o (by omega), f1 i j (by omega)]⟩
  · have et : e = b := by rw [he]; unfold tE; rw [← hb, if_neg c]
    have ns : nsg tl tx p = 0 := by unfold nsg; rw [← hb, if_neg c]
    rw [s_sign0 T1 (by omega) (by omega), bd_t, lt_t, su_s, if_pos rfl]
    refine ⟨_, rfl, by rw [su_o (by omega), et]; exact g2, by rw [su_o (by omega)]; exact g3, by rw [su_s, ns]; rfl, fun q => by omega, by rw [su_o (by omega), f1 68 6 (by omega)], fun i j hij => by rw [su_o (by omega), f1 i j (by omega)]⟩
/-- a number as it is asked for -/
def okN (tl : Nat) (tx : Nat → Nat) (p : Nat) (lo hi : Int32) : Prop := nsg tl tx p = 2 ∧ ¬ nI (nvl tl tx p) < lo ∧ ¬ hi < nI (nvl tl tx p)
theorem s_fail (h : σ 68 6 = -1) (h3 : σ 68 3 = nI b) : mX7_fail σ = some (0, s_up σ 68 6 (nI b)) := by
  unfold mX7_fail
  rw [h, if_pos rfl, lt_t, h3]
theorem s_readN (T : TXS σ tl tx) (h : σ 68 2 = nI p) (h6 : σ 68 6 = -1) (hp : p ≤ tl) (lo hi : Int32) : ∃ r σ', mX7_readNumber lo hi σ = some (r, σ') ∧ F68 σ σ' ∧ ((okN tl tx p lo hi ∧ r = nI (nvl tl tx p) ∧ σ' 68 2 = nI (tE tl tx p) ∧ σ' 68 3 = nI (tB tl tx p) ∧ σ' 68 6 = -1) ∨ (¬ okN tl tx p lo hi ∧ σ' 68 6 = nI (tB tl tx p))) := by
  obtain ⟨σ1, a1, a2, a3, a4, a5, a6, a7⟩ := s_next T h hp
  rw [h6] at a6
  have sl : nsg tl tx p < 2 ^ 31 := by unfold nsg; repeat' split
                                       all_goals omega
  unfold mX7_readNumber
  rw [h6, if_pos rfl, a1, bd_t, a4]
  simp only [show (2 : Int32) = nI 2 from rfl, nI_inj sl (show 2 < 2 ^ 31 by decide)]
  have Fl : F68 σ (s_up σ1 68 6 (nI (tB tl tx p))) := fun i j hij => by rw [su_o (by omega), a7 i j hij]
  by_cases c : nsg tl tx p = 2
  · rw [if_pos c, a5 (Or.inr c)]
    by_cases c1 : nI (nvl tl tx p) < lo
    · rw [if_pos c1, s_fail a6 a3, bd_t]
      exact ⟨_, _, rfl, Fl, Or.inr ⟨fun q => q.2.1 c1, su_s⟩⟩
    · rw [if_neg c1]
      by_cases c2 : hi < nI (nvl tl tx p)
      · rw [if_pos c2, s_fail a6 a3, bd_t]
        exact ⟨_, _, rfl, Fl, Or.inr ⟨fun q => q.2.2 c2, su_s⟩⟩
      · rw [if_neg c2]
        exact ⟨_, σ1, rfl, a7, Or.inl ⟨⟨c, c1, c2⟩, rfl, a2, a3, a6⟩⟩
  · rw [if_neg c, s_fail a6 a3, bd_t]
    exact ⟨_, _, rfl, Fl, Or.inr ⟨fun q => c q.1, su_s⟩⟩
theorem s_readN0 (h6 : ¬ σ 68 6 = -1) (lo hi : Int32) : mX7_readNumber lo hi σ = some (0, σ) := by
  unfold mX7_readNumber
  rw [if_neg h6]
theorem s_close0 (h6 : ¬ σ 68 6 = -1) : mX7_readClosing σ = some (0, σ) := by
  unfold mX7_readClosing
  rw [if_neg h6]
theorem s_close (T : TXS σ tl tx) (h : σ 68 2 = nI p) (h6 : σ 68 6 = -1) (hp : p ≤ tl) : ∃ σ', mX7_readClosing σ = some (0, σ') ∧ F68 σ σ' ∧ ((nsg tl tx p = 3 ∧ σ' 68 2 = nI (tE tl tx p) ∧ σ' 68 6 = -1) ∨ (¬ nsg tl tx p = 3 ∧ σ' 68 6 = nI (tB tl tx p))) := by
  obtain ⟨σ1, a1, a2, a3, a4, a5, a6, a7⟩ := s_next T h hp
  rw [h6] at a6
  have sl : nsg tl tx p < 2 ^ 31 := by unfold nsg; repeat' split
                                       all_goals omega
  unfold mX7_readClosing
  rw [h6, if_pos rfl, a1, bd_t, a4]
  simp only [show (3 : Int32) = nI 3 from rfl, nI_inj sl (show 3 < 2 ^ 31 by decide)]
  by_cases c : nsg tl tx p = 3
  · rw [if_pos c]
    exact ⟨σ1, rfl, a7, Or.inl ⟨c, a2, a6⟩⟩
  · rw [if_neg c, s_fail a6 a3, bd_t]
    exact ⟨_, rfl, fun i j hij => by rw [su_o (by omega), a7 i j hij], Or.inr ⟨c, su_s⟩⟩
theorem m_num109 {v : Int32} (lo hi : Int32) : mX12_number_109 lo hi v τ = some (if ¬ v < lo ∧ ¬ hi < v then v else -9, τ) := by
  unfold mX12_number_109
  rw [m_in, bd_t]
  by_cases c : ¬ v < lo ∧ ¬ hi < v
  · rw [decide_eq_true c, z1_t, if_neg n10, if_pos c]
  · rw [decide_eq_false c, z1_f, if_pos rfl, if_neg c]
/-- the reference's word is the one at p -/
def MT (τ : St) (tl : Nat) (tx : Nat → Nat) (p : Nat) : Prop := τ 0 17 = nI (tE tl tx p) ∧ τ 0 18 = nI (tB tl tx p) ∧ τ 0 19 = nI (tE tl tx p)
theorem m_number (T : TXM τ tl tx) (M : MT τ tl tx p) (hp : p ≤ tl) (lo hi : Int32) : (okN tl tx p lo hi ∧ mX12_number lo hi τ = some (nI (nvl tl tx p), τ)) ∨ (¬ okN tl tx p lo hi ∧ mX12_number lo hi τ = some (-9, τ)) := by
  have h200 := T.2.2.1
  obtain ⟨b1, b2⟩ := tB_le tx hp
  obtain ⟨e1, e2, e3⟩ := tE_le tx hp
  obtain ⟨b, hb⟩ : ∃ b, b = tB tl tx p := ⟨_, rfl⟩
  obtain ⟨e, he⟩ : ∃ e, e = tE tl tx p := ⟨_, rfl⟩
  obtain ⟨m17, m18, m19⟩ := M
  rw [← he] at m17 m19 e1 e2 e3
  rw [← hb] at m18 b1 b2 e1 e3
  have st : ∀ q, q = mX12_number lo hi τ → ((okN tl tx p lo hi ∧ q = some (nI (nvl tl tx p), τ)) ∨ (¬ okN tl tx p lo hi ∧ q = some (-9, τ))) := by
    intro q hq
    unfold mX12_number at hq
    rw [m18, T.1] at hq
    by_cases c : b < tl
    · have el := e3 c
      have hcb := T.2.2.2 b c
      rw [if_neg (show ¬ nI b = nI tl by rw [nI_inj (by omega) (by omega)]; omega), gd_t (ib_nI (by omega) (by decide)), nx_nI (by omega), T.2.1 b c, m_sort hcb, bd_t, m19, m18, sub_nI e1] at hq
      have hsl : sgc (tx b) ≤ 2 := by unfold sgc; split <;> (try split) <;> omega
      by_cases c2 : sgc (tx b) = 2
      · have d2 := sgc2.mp c2
        have c1 : ¬ sgc (tx b) = 1 := by omega
        have ns : nsg tl tx p = if e - b = 1 ∨ (e - b = 2 ∧ tx b ≠ 48) then 2 else 4 := by unfold nsg; rw [← hb, ← he, if_pos c, if_neg c1, if_pos c2]
        have nv : nvl tl tx p = if e - b = 1 then tx b - 48 else 10 * (tx b - 48) + tx (b + 1) - 48 := by unfold nvl; rw [← hb, ← he, if_neg c1]
        rw [c2, if_pos (show nI 2 = 2 from rfl)] at hq
        by_cases c3 : 2 < e - b
        · rw [if_pos (show 2 < nI (e - b) from nI_lt (a := 2) c3 (by omega))] at hq
          rw [if_neg (by omega)] at ns
          exact Or.inr ⟨fun z => by rw [z.1] at ns; omega, hq⟩
        · rw [if_neg (show ¬ 2 < nI (e - b) from nI_nlt (a := 2) (by omega) (by omega))] at hq
          have num : ∀ v, nvl tl tx p = v → nsg tl tx p = 2 → q = mX12_number_109 lo hi (nI v) τ → ((okN tl tx p lo hi ∧ q = some (nI (nvl tl tx p), τ)) ∨ (¬ okN tl tx p lo hi ∧ q = some (-9, τ))) := by
            intro v hv hs hq2
            rw [m_num109] at hq2
            by_cases c : ¬ nI v < lo ∧ ¬ hi < nI v
            · rw [if_pos c] at hq2
              exact Or.inl ⟨⟨hs, by rw [hv]; exact c.1, by rw [hv]; exact c.2⟩, by rw [hv]; exact hq2⟩
            · rw [if_neg c] at hq2
              exact Or.inr ⟨fun z => c (by rw [← hv]; exact z.2), hq2⟩
          by_cases cl : e - b = 1
          · rw [if_neg (show ¬ nI (e - b) = 2 by rw [cl]; decide)] at hq
            rw [if_pos (Or.inl cl)] at ns
            rw [if_pos cl] at nv
            refine num _ nv ns ?_
            rw [hq]
            unfold mX12_number_70
            rw [lt_t, m18, show FU = 19998 + 1 + 1 from rfl, mX12_number_78, m19, if_pos (nI_lt el (by omega)), gd_t (ib_nI (by omega) (by decide)), nx_nI (by omega), T.2.1 b c, lt_t, lt_t, show (10 : Int32) * 0 + nI (tx b) - 48 = nI (tx b - 48) by rw [show (10 : Int32) * 0 = nI 0 from rfl, nI_add, show (48 : Int32) = nI 48 from rfl, sub_nI (by omega), Nat.zero_add], li1, nI_add, mX12_number_78, m19, if_neg (nI_nlt (by omega) (by omega))]
          · have td := two_dig hp (by rw [← hb]; exact c) (by rw [← hb]; exact c2) (by rw [← hb, ← he]; exact cl)
            rw [← hb, ← he] at td
            have c5 : e - b = 2 := by omega
            rw [if_pos (show nI (e - b) = 2 by rw [c5]; rfl), gd_t (ib_nI (by omega) (by decide))] at hq
            simp only [nx_nI (show b < 2 ^ 31 by omega), T.2.1 b c, show (48 : Int32) = nI 48 from rfl, nI_inj (show tx b < 2 ^ 31 by omega) (show 48 < 2 ^ 31 by decide)] at hq
            by_cases c4 : tx b = 48
            · rw [if_pos c4] at hq
              rw [if_neg (by omega)] at ns
              exact Or.inr ⟨fun z => by rw [z.1] at ns; omega, hq⟩
            · rw [if_neg c4] at hq
              rw [if_pos (Or.inr ⟨c5, c4⟩)] at ns
              rw [if_neg cl] at nv
              refine num _ nv ns ?_
              rw [hq]
              unfold mX12_number_70
              rw [lt_t, m18, show FU = 19997 + 1 + 1 + 1 from rfl, mX12_number_78, m19, if_pos (nI_lt el (by omega)), gd_t (ib_nI (by omega) (by decide)), nx_nI (by omega), T.2.1 b c, lt_t, lt_t, show (10 : Int32) * 0 + nI (tx b) - 48 = nI (tx b - 48) by rw [show (10 : Int32) * 0 = nI 0 from rfl, nI_add, show (48 : Int32) = nI 48 from rfl, sub_nI (by omega), Nat.zero_add], li1, nI_add, mX12_number_78, m19, if_pos (nI_lt (by omega) (by omega)), gd_t (ib_nI (by omega) (by decide)), nx_nI (by omega), T.2.1 (b + 1) td.1, lt_t, lt_t, li10, pk_mul, nI_add, show (48 : Int32) = nI 48 from rfl, sub_nI (by omega), li1, nI_add, mX12_number_78, m19, if_neg (nI_nlt (by omega) (by omega))]
      · have : ¬ nsg tl tx p = 2 := by
          unfold nsg
          rw [← hb, if_pos c, if_neg c2]
          split
          · omega
          · split <;> omega
        rw [if_neg (show ¬ nI (sgc (tx b)) = 2 by rw [show (2 : Int32) = nI 2 from rfl, nI_inj (by omega) (by decide)]; exact c2)] at hq
        exact Or.inr ⟨fun z => this z.1, hq⟩
    · have eb : b = tl := by omega
      rw [if_pos (by rw [eb])] at hq
      refine Or.inr ⟨fun z => ?_, hq⟩
      have := z.1
      unfold nsg at this
      rw [← hb, if_neg c] at this
      omega
  exact st _ rfl
end

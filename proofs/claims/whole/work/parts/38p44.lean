/-! pure: heights of the text; an item as a whole -/
section
variable {σ τ σ' τ' : St} {tl p w h gn kn kE kS : Nat} {tx gr sz wo fo ht : Nat → Nat}
theorem s_fig_f (h6 : ¬ σ 68 6 = -1) : mX7_readFigure σ = some (0, σ) := by unfold mX7_readFigure; rw [if_neg h6]
theorem s_g33_f {n : Nat} (hn : n ≤ 30) : ∀ (m N i : Nat) (σ : St), ¬ σ 68 6 = -1 → σ 18 2 = nI n → i + m = n → ∃ σ', mX7_readGround_33 (N + m + 1) (nI i) σ = some (0, σ') ∧ ∀ a b, a ≠ 19 → σ' a b = σ a b
  | 0, N, i, σ, h6, h2, e => by
    refine ⟨σ, ?_, fun _ _ _ => rfl⟩
    rw [show N + 0 + 1 = N + 1 from rfl, mX7_readGround_33, h2, if_neg (nI_nlt (by omega) (by omega))]
  | m + 1, N, i, σ, h6, h2, e => by
    obtain ⟨σ', e1, e2⟩ := s_g33_f hn m N (i + 1) (s_up σ 19 i 0) (by rw [su_o (by omega)]; exact h6) (by rw [su_o (by omega)]; exact h2) (by omega)
    refine ⟨σ', ?_, fun a b ha => by rw [e2 a b ha, su_o (by omega)]⟩
    rw [show N + (m + 1) + 1 = (N + m + 1) + 1 from rfl, mX7_readGround_33, h2, if_pos (nI_lt (by omega) (by omega)), s_fig_f h6, bd_t, gd_t (ib_nI (by omega) (by decide)), nx_nI (by omega), lt_t, lt_t, li1, nI_add]
    exact e1
theorem fig (hw6 : w ≤ 6) (hh5 : h ≤ 5) : ∀ (m N N' i p : Nat) (σ τ : St) (ht : Nat → Nat), i + m = w * h → p ≤ tl → TXS σ tl tx → TXM τ tl tx → σ 68 2 = nI p → σ 68 6 = -1 → τ 0 17 = nI p → σ 18 2 = nI (w * h) → τ 0 20 = nI w → τ 0 21 = nI h → (∀ j, j < i → σ 19 j = nI (ht j) ∧ τ 11 j = nI (ht j) ∧ ht j ≤ 9) → (∃ (σ' τ' : St) (ht' : Nat → Nat) (p' : Nat), mX7_readGround_33 (N + m + 1) (nI i) σ = some (0, σ') ∧ mX12_readsHeights_77 (N' + m + 1) (nI i) τ = some (1, τ') ∧ RD σ' τ' tl tx p' ∧ p ≤ p' ∧ (∀ j, j < w * h → σ' 19 j = nI (ht' j) ∧ τ' 11 j = nI (ht' j) ∧ ht' j ≤ 9) ∧ (∀ a b, a ≠ 19 → ¬ (a = 68 ∧ 2 ≤ b) → σ' a b = σ a b) ∧ (∀ a b, a ≠ 11 → ¬ (a = 0 ∧ 17 ≤ b ∧ b ≤ 19) → τ' a b = τ a b)) ∨ (∃ (σ' τ' : St), mX7_readGround_33 (N + m + 1) (nI i) σ = some (0, σ') ∧ mX12_readsHeights_77 (N' + m + 1) (nI i) τ = some (0, τ') ∧ FA σ' τ' tl ∧ (∀ a b, a ≠ 19 → ¬ (a = 68 ∧ 2 ≤ b) → σ' a b = σ a b) ∧ (∀ a b, a ≠ 11 → ¬ (a = 0 ∧ 17 ≤ b ∧ b ≤ 19) → τ' a b = τ a b))
  | 0, N, N', i, p, σ, τ, ht, e, hp, TS, TM, s2, s6, t17, n2, t20, t21, H => by
    have h30 : w * h ≤ 30 := Nat.mul_le_mul hw6 hh5
    left
    have g := m_token TM t17 hp
    refine ⟨σ, _, ht, p, ?_, ?_, ⟨TS, TM.fr (fun j => mT_o (by omega)) (mT_o (by omega)), s2, s6, ⟨mT_17, mT_18, mT_19⟩, hp⟩, Nat.le_refl _, fun j hj => ?_, fun _ _ _ _ => rfl, fun a b h1 h2 => mT_o h2⟩
    · rw [show N + 0 + 1 = N + 1 from rfl, mX7_readGround_33, n2, if_neg (nI_nlt (by omega) (by omega))]
    · rw [show N' + 0 + 1 = N' + 1 from rfl, mX12_readsHeights_77, t20, t21, pk_mul, if_neg (nI_nlt (by omega) (by omega)), g, bd_t]
    · rw [mT_o (by omega)]; exact H j (by omega)
  | m + 1, N, N', i, p, σ, τ, ht, e, hp, TS, TM, s2, s6, t17, n2, t20, t21, H => by
    have h30 : w * h ≤ 30 := Nat.mul_le_mul hw6 hh5
    have h200 := TM.2.2.1
    obtain ⟨B1, B2⟩ := tB_le tx hp
    obtain ⟨b, hb⟩ : ∃ b, b = tB tl tx p := ⟨_, rfl⟩
    rw [← hb] at B1 B2
    obtain ⟨σ1, hσ1⟩ : ∃ σ1, σ1 = s_up (s_up σ 68 2 (nI b)) 68 3 (nI b) := ⟨_, rfl⟩
    have f1 : ∀ a c, ¬ (a = 68 ∧ 2 ≤ c ∧ c ≤ 3) → σ1 a c = σ a c := fun a c hac => by rw [hσ1, su_o (by omega), su_o (by omega)]
    have g2 : σ1 68 2 = nI b := by rw [hσ1, su_o (by omega), su_s]
    have g3 : σ1 68 3 = nI b := by rw [hσ1, su_s]
    have g6 : σ1 68 6 = -1 := by rw [f1 68 6 (by omega)]; exact s6
    have T1 : TXS σ1 tl tx := TS.fr (fun j => f1 1 j (by omega)) (f1 68 0 (by omega)) (f1 68 1 (by omega))
    obtain ⟨τ1, hτ1⟩ : ∃ τ1, τ1 = s_up (s_up τ 0 17 (nI b)) 0 18 (nI b) := ⟨_, rfl⟩
    have f2 : ∀ a c, ¬ (a = 0 ∧ 17 ≤ c ∧ c ≤ 18) → τ1 a c = τ a c := fun a c hac => by rw [hτ1, su_o (by omega), su_o (by omega)]
    have k17 : τ1 0 17 = nI b := by rw [hτ1, su_o (by omega), su_s]
    have k18 : τ1 0 18 = nI b := by rw [hτ1, su_s]
    have TM1 : TXM τ1 tl tx := TM.fr (fun j => f2 3 j (by omega)) (f2 0 3 (by omega))
    have eS : mX7_readGround_33 (N + (m + 1) + 1) (nI i) σ = bd (bd (mX7_signAt (nI b) σ1) fun r5 s6 => if r5 = 2 then (lt (s_up s6 68 2 ((s6 68 2) + 1)) fun s8 => gd (¬ s8 68 0 = 0) <| gd (ib (s8 68 3) 200) <| some (((s8 1 (nx (s8 68 3))) - 48), s8)) else (bd (mX7_fail s6) fun r11 s12 => some (0, s12))) (fun r10 s11 => lt (s_up s11 19 i r10) fun s14 => mX7_readGround_33 (N + m + 1) (nI (i + 1)) s14) := by
      rw [show N + (m + 1) + 1 = (N + m + 1) + 1 from rfl, mX7_readGround_33, n2, if_pos (nI_lt (by omega) (by omega))]
      unfold mX7_readFigure
      rw [s6, if_pos rfl, s_skip TS s2 hp, bd_t, lt_t, su_s, ← hb, ← hσ1, g2]
      simp only [gd_t (ib_nI (show i < 30 by omega) (by decide)), nx_nI (show i < 2 ^ 31 by omega), li1, nI_add, lt_t]
    have eM : mX12_readsHeights_77 (N' + (m + 1) + 1) (nI i) τ = if nI b = nI tl then (some (0, τ1)) else (gd (ib (nI b) 200) <| bd (mX12_sort (τ1 3 b) τ1) fun r28 s29 => if r28 = 2 then (gd (ib (s29 0 17) 200) <| gd (ib (nI i) 30) <| lt (s_up s29 11 (nx (nI i)) ((s29 3 (nx (s29 0 17))) - 48)) fun s33 => lt (s_up s33 0 17 ((s33 0 17) + 1)) fun s34 => lt (nI i + 1) fun x35 => mX12_readsHeights_77 (N' + m + 1) x35 s34) else (some (0, s29))) := by
      rw [show N' + (m + 1) + 1 = (N' + m + 1) + 1 from rfl, mX12_readsHeights_77, t20, t21, pk_mul, if_pos (nI_lt (by omega) (by omega)), m_skip TM t17 hp, bd_t, lt_t, su_s, ← hb, ← hτ1, k17, TM1.1]
      simp only [nx_nI (show b < 2 ^ 31 by omega)]
    rw [eS, eM]
    have failS : ∀ σ2, σ2 = s_up σ1 68 6 (nI b) → ∃ σ', (lt (s_up σ2 19 i 0) fun s14 => mX7_readGround_33 (N + m + 1) (nI (i + 1)) s14) = some (0, σ') ∧ σ' 68 6 = nI b ∧ ∀ a c, a ≠ 19 → ¬ (a = 68 ∧ 2 ≤ c) → σ' a c = σ a c := by
      intro σ2 hσ2
      have z6 : s_up σ2 19 i 0 68 6 = nI b := by rw [su_o (by omega), hσ2, su_s]
      obtain ⟨σ', q1, q2⟩ := s_g33_f h30 m N (i + 1) (s_up σ2 19 i 0) (by rw [z6]; exact nI_m1 (by omega)) (by rw [su_o (by omega), hσ2, su_o (by omega), f1 18 2 (by omega)]; exact n2) (by omega)
      refine ⟨σ', by rw [lt_t]; exact q1, by rw [q2 68 6 (by omega)]; exact z6, fun a c h1 h2 => by rw [q2 a c h1, su_o (by omega), hσ2, su_o (by omega), f1 a c (by omega)]⟩
    by_cases c : b < tl
    · have hcb := TS.2.2.2.2 b c
      have hsl := sgc_le (tx b)
      rw [s_sign T1 c, bd_t, if_neg (show ¬ nI b = nI tl by rw [nI_inj (by omega) (by omega)]; omega), gd_t (ib_nI (by omega) (by decide)), TM1.2.1 b c, m_sort hcb, bd_t]
      by_cases c2 : sgc (tx b) = 2
      · have d2 := sgc2.mp c2
        have cS : sgS (tx b) = 2 := (sgS_eq (tx b) (Or.inr rfl)).mpr c2
        rw [cS, if_pos (show nI 2 = 2 from rfl), c2, if_pos (show nI 2 = 2 from rfl), k17, gd_t (ib_nI (by omega) (by decide)), gd_t (ib_nI (by omega) (by decide)), g2, li1, nI_add, lt_t]
        have j0 : s_up σ1 68 2 (nI (b + 1)) 68 0 = 1 := by rw [su_o (by omega)]; exact T1.1
        have j3 : s_up σ1 68 2 (nI (b + 1)) 68 3 = nI b := by rw [su_o (by omega)]; exact g3
        have jb : s_up σ1 68 2 (nI (b + 1)) 1 b = nI (tx b) := by rw [su_o (by omega)]; exact T1.2.2.1 b c
        rw [gd_t (by rw [j0]; decide), j3, gd_t (ib_nI (by omega) (by decide))]
        simp only [nx_nI (show b < 2 ^ 31 by omega), nx_nI (show i < 2 ^ 31 by omega), jb, TM1.2.1 b c, show (48 : Int32) = nI 48 from rfl, sub_nI d2.1, bd_t, lt_t, nI_add]
        rw [su_o (by omega), k17, nI_add]
        have IH := fig hw6 hh5 m N N' (i + 1) (b + 1) (s_up (s_up σ1 68 2 (nI (b + 1))) 19 i (nI (tx b - 48))) (s_up (s_up τ1 11 i (nI (tx b - 48))) 0 17 (nI (b + 1))) (fun j => if j = i then tx b - 48 else ht j) (by omega) (by omega)
          (T1.fr (fun j => by rw [su_o (by omega), su_o (by omega)]) (by rw [su_o (by omega), su_o (by omega)]) (by rw [su_o (by omega), su_o (by omega)])) (TM1.fr (fun j => by rw [su_o (by omega), su_o (by omega)]) (by rw [su_o (by omega), su_o (by omega)])) (by rw [su_o (by omega), su_s]) (by rw [su_o (by omega), su_o (by omega)]; exact g6) su_s (by rw [su_o (by omega), su_o (by omega), f1 18 2 (by omega)]; exact n2) (by rw [su_o (by omega), su_o (by omega), f2 0 20 (by omega)]; exact t20) (by rw [su_o (by omega), su_o (by omega), f2 0 21 (by omega)]; exact t21) (fun j hj => by
            show _ = nI (if j = i then tx b - 48 else ht j) ∧ _ = nI (if j = i then tx b - 48 else ht j) ∧ (if j = i then tx b - 48 else ht j) ≤ 9
            by_cases q : j = i
            · subst q
              simp only [if_pos]
              exact ⟨su_s, by rw [su_o (by omega), su_s], by omega⟩
            · simp only [if_neg q]
              rw [su_o (by omega), su_o (by omega), su_o (by omega), su_o (by omega), f1 19 j (by omega), f2 11 j (by omega)]
              exact H j (by omega))
        rcases IH with ⟨σ', τ', ht', p', q1, q2, q3, q4, q5, q6, q7⟩ | ⟨σ', τ', q1, q2, q3, q6, q7⟩
        · exact Or.inl ⟨σ', τ', ht', p', q1, q2, q3, by omega, q5, fun a c h1 h2 => by rw [q6 a c h1 h2, su_o (by omega), su_o (by omega), f1 a c (by omega)], fun a c h1 h2 => by rw [q7 a c h1 h2, su_o (by omega), su_o (by omega), f2 a c (by omega)]⟩
        · exact Or.inr ⟨σ', τ', q1, q2, q3, fun a c h1 h2 => by rw [q6 a c h1 h2, su_o (by omega), su_o (by omega), f1 a c (by omega)], fun a c h1 h2 => by rw [q7 a c h1 h2, su_o (by omega), su_o (by omega), f2 a c (by omega)]⟩
      · have cS : ¬ sgS (tx b) = 2 := fun q => c2 ((sgS_eq (tx b) (Or.inr rfl)).mp q)
        have sl : sgS (tx b) ≤ 4 := by unfold sgS; split <;> (try split) <;> (try split) <;> omega
        rw [if_neg (show ¬ nI (sgS (tx b)) = 2 by rw [show (2 : Int32) = nI 2 from rfl, nI_inj (by omega) (by decide)]; exact cS), if_neg (show ¬ nI (sgc (tx b)) = 2 by rw [show (2 : Int32) = nI 2 from rfl, nI_inj (by omega) (by decide)]; exact c2), s_fail g6 g3, bd_t, bd_t]
        obtain ⟨σ', q1, q2, q3⟩ := failS _ rfl
        exact Or.inr ⟨σ', τ1, q1, rfl, ⟨b, B2, q2, k18⟩, q3, fun a c h1 h2 => f2 a c (by omega)⟩
    · rw [s_sign0 T1 (by omega) (by omega), bd_t, if_neg (by decide), if_pos (by rw [show b = tl by omega]), s_fail g6 g3, bd_t, bd_t]
      obtain ⟨σ', q1, q2, q3⟩ := failS _ rfl
      exact Or.inr ⟨σ', τ1, q1, rfl, ⟨b, B2, q2, k18⟩, q3, fun a c h1 h2 => f2 a c (by omega)⟩
theorem rd_bind (k : St → Option (Int32 × St)) : (bd (mX12_number 1 6 σ) fun r1 s2 => gd (ib 0 3) <| lt (s_up s2 15 (nx 0) r1) fun s5 => gd (ib 0 3) <| if (s5 15 (nx 0)) = (-9) then (some (0, s5)) else (bd (mX12_token s5) fun _ s8 => k s8)) = bd (mX12_reads 0 1 6 σ) (fun r s => if r = 0 then some (0, s) else k s) := by
  unfold mX12_reads
  cases hn : mX12_number 1 6 σ with
  | none => rfl
  | some rs =>
    obtain ⟨r, s⟩ := rs
    rw [bd_t, bd_t, gd_t (by decide), gd_t (by decide), lt_t, lt_t, gd_t (by decide), gd_t (by decide)]
    by_cases c : s_up s 15 (nx 0) r 15 (nx 0) = -9
    · rw [if_pos c, if_pos c, bd_t, if_pos rfl]
    · rw [if_neg c, if_neg c]
      cases mX12_token (s_up s 15 (nx 0) r) with
      | none => rfl
      | some ts => obtain ⟨t, s'⟩ := ts; rw [bd_t, bd_t, bd_t, if_neg n10]
/-- nothing is read yet -/
def C0S (σ : St) : Prop := σ 18 3 = nI 0 ∧ σ 18 4 = nI 0 ∧ (∀ i, i < 30 → σ 20 i = nI 0 ∧ σ 21 i = nI 0) ∧ σ 18 0 = nI 0 ∧ σ 18 1 = nI 0 ∧ σ 18 2 = nI 0
def C0M (τ : St) : Prop := τ 0 25 = nI 0 ∧ τ 0 26 = nI 0 ∧ τ 12 0 = nI 0 ∧ τ 12 1 = nI 0 ∧ (∀ i, i < 30 → τ 13 i = nI 0) ∧ τ 0 20 = nI 0 ∧ τ 0 21 = nI 0
theorem it_ground (R : RD σ τ tl tx p) (C : C0S σ) (D : C0M τ) : OUT tl tx p σ τ (mX7_readGround σ) (mX12_readsHeights τ) := by
  have h200 := R.1.2.2.2.1
  have hp := R.2.2.2.2.2
  unfold mX7_readGround mX12_readsHeights
  rw [rd_bind]
  rcases rn R (s := 0) (L := 1) (H := 6) (by decide) (by decide) (by decide) with ⟨a, σ1, τ1, a1, a2, a3, a4, a5, a6, a7, a8, a9⟩ | ⟨r, σ1, τ1, a1, a2, a3, a4, a5⟩
  · rw [show mX7_readNumber 1 6 σ = _ from a1, bd_t, show mX12_reads 0 1 6 τ = _ from a2, bd_t, if_neg n10]
    obtain ⟨TS, TM, h2, h6, M, hp1⟩ := a3
    have hE := tE_le tx hp1
    have hB := tB_le tx hp1
    obtain ⟨r, σ2, b1, b2, b3⟩ := s_readN TS h2 h6 hp1 1 5
    rw [b1, bd_t]
    rcases m_number TM M hp1 1 5 with ⟨ok, m1⟩ | ⟨ok, m1⟩
    · rcases b3 with ⟨-, q1, q2, q3, q4⟩ | ⟨nok, -⟩
      · have vl := nvl_lt TS hp1 ok.1
        obtain ⟨b, hb'⟩ : ∃ b, b = nvl tl tx (tE tl tx p) := ⟨_, rfl⟩
        rw [← hb'] at vl q1 m1
        have hb5 : b ≤ 5 := by
          have := ok.2.2
          rw [← hb', show (5 : Int32) = nI 5 from rfl, nI_ltp (by omega) vl] at this
          omega
        have hb1 : 1 ≤ b := by
          have := ok.2.1
          rw [← hb', show (1 : Int32) = nI 1 from rfl, nI_ltp vl (by omega)] at this
          omega
        obtain ⟨τ2, hτ2⟩ : ∃ τ2, τ2 = s_up (s_up (s_up τ1 15 1 (nI b)) 0 20 (nI a)) 0 21 (nI b) := ⟨_, rfl⟩
        have f2 : ∀ i j, ¬ (i = 15 ∧ j = 1) → ¬ (i = 0 ∧ 20 ≤ j ∧ j ≤ 21) → τ2 i j = τ1 i j := fun i j h1 h2 => by rw [hτ2, su_o (by omega), su_o (by omega), su_o (by omega)]
        have F2 := a7.tr b2
        obtain ⟨σ3, s1, s2, s3, s4, s5, s6⟩ := s_stretch (σ := σ2) (w := a) (h := b) a6 hb5 (fun i hi => by rw [F2 20 i (by omega)]; exact (C.2.2.1 i hi).1)
        have c0 : s_up τ1 15 1 (nI b) 15 0 = nI a := by rw [su_o (by omega)]; exact a4
        have c1 : s_up (s_up τ1 15 1 (nI b)) 0 20 (nI a) 15 1 = nI b := by rw [su_o (by omega), su_s]
        have eM : mX12_readsHeights_77 FU 0 τ2 = (lt (s_up τ1 15 (nx 1) (nI b)) fun s14 => gd (ib 1 3) <| if (s14 15 (nx 1)) = (-9) then (some (0, s14)) else (gd (ib 0 3) <| lt (s_up s14 0 20 (s14 15 (nx 0))) fun s17 => gd (ib 1 3) <| lt (s_up s17 0 21 (s17 15 (nx 1))) fun s19 => mX12_readsHeights_77 FU 0 s19)) := by
          rw [lt_t, gd_t (by decide), show s_up τ1 15 (nx 1) (nI b) 15 (nx 1) = nI b from su_s, if_neg (nI_m9 vl), gd_t (by decide), lt_t, show s_up τ1 15 (nx 1) (nI b) 15 (nx 0) = nI a from c0, gd_t (by decide), lt_t, show s_up (s_up τ1 15 (nx 1) (nI b)) 0 20 (nI a) 15 (nx 1) = nI b from c1, hτ2]
          rfl
        rw [q4, if_pos rfl, q1, s1, bd_t, m1, bd_t, gd_t (by decide), ← eM]
        have h30 : a * b ≤ 30 := Nat.mul_le_mul a6 hb5
        have FG := fig (tl := tl) (tx := tx) a6 hb5 (a * b) (19999 - a * b) (19999 - a * b) 0 (tE tl tx (tE tl tx p)) σ3 τ2 (fun _ => 0) (by omega) hE.2.1 ((b2.txs TS).fr (fun j => s6 1 j (by omega) (by omega) (by omega)) (s6 68 0 (by omega) (by omega) (by omega)) (s6 68 1 (by omega) (by omega) (by omega))) (TM.fr (fun j => f2 3 j (by omega) (by omega)) (f2 0 3 (by omega) (by omega))) (by rw [s6 68 2 (by omega) (by omega) (by omega)]; exact q2) (by rw [s6 68 6 (by omega) (by omega) (by omega)]; exact q4) (by rw [f2 0 17 (by omega) (by omega)]; exact M.1) s4 (by rw [hτ2, su_o (by omega), su_s]) (by rw [hτ2, su_s]) (fun j hj => absurd hj (Nat.not_lt_zero j))
        rw [show 19999 - a * b + a * b + 1 = FU by unfold FU; omega] at FG
        have gS : ∀ i j, ¬ (18 ≤ i ∧ i ≤ 25) → ¬ (i = 68 ∧ 2 ≤ j) → σ3 i j = σ i j := fun i j h1 h2 => by rw [s6 i j (by omega) (by omega) (by omega), F2 i j h2]
        have gM : ∀ i j, ¬ (i = 0 ∧ 17 ≤ j ∧ j ≤ 21) → i ≠ 15 → τ2 i j = τ i j := fun i j h1 h2 => by rw [f2 i j (by omega) (by omega), a8 i j (by omega) h2]
        rcases FG with ⟨σ4, τ4, ht, p', g1, g2, g3, g4, g5, g6, g7⟩ | ⟨σ4, τ4, g1, g2, g3, g6, g7⟩
        · left
          have g1' : mX7_readGround_33 FU 0 σ3 = some (0, σ4) := g1
          have g2' : mX12_readsHeights_77 FU 0 τ2 = some (1, τ4) := g2
          refine ⟨σ4, τ4, p', g1', g2', g3, ?_, ?_, fun i j h1 h2 => by rw [g6 i j (by omega) h2, gS i j h1 h2], fun i j h1 h2 => by rw [g7 i j (by omega) (by omega), gM i j (by omega) (by omega)]⟩
          · have e1 := tE_ge (tx := tx) hp
            have e2 := tE_ge (tx := tx) hp1
            omega
          · refine ⟨a, b, 0, 0, 0, 0, fun _ => 0, fun _ => 0, fun _ => 0, fun _ => 0, ht, ⟨by omega, a6, hb1, hb5, by decide, by decide, by omega, by omega, fun i hi => Nat.zero_le _, fun k hk => absurd hk (Nat.not_lt_zero k), fun i hi => (g5 i hi).2.2⟩, ⟨?_, ?_, ?_, ?_, ?_, fun i hi => ?_, fun i hi => ?_, fun i hi => (g5 i hi).1, fun i hi v hv => ?_, fun k hk => absurd hk (Nat.not_lt_zero k)⟩, ⟨?_, ?_, ?_, ?_, ?_, ?_, fun i hi => ?_, fun i hi => (g5 i hi).2.1, fun k hk => absurd hk (Nat.not_lt_zero k)⟩⟩
            · rw [g6 18 0 (by omega) (by omega)]; exact s2
            · rw [g6 18 1 (by omega) (by omega)]; exact s3
            · rw [g6 18 2 (by omega) (by omega)]; exact s4
            · rw [g6 18 3 (by omega) (by omega), s6 18 3 (by omega) (by omega) (by omega), F2 18 3 (by omega)]; exact C.1
            · rw [g6 18 4 (by omega) (by omega), s6 18 4 (by omega) (by omega) (by omega), F2 18 4 (by omega)]; exact C.2.1
            · rw [g6 20 i (by omega) (by omega)]; exact (s5 i hi).1
            · rw [g6 21 i (by omega) (by omega), s6 21 i (by omega) (by omega) (by omega), F2 21 i (by omega)]; exact (C.2.2.1 i (by omega)).2
            · rw [g6 22 _ (by omega) (by omega)]; exact (s5 i hi).2 v hv
            · rw [g7 0 20 (by omega) (by omega), hτ2, su_o (by omega), su_s]
            · rw [g7 0 21 (by omega) (by omega), hτ2, su_s]
            · rw [g7 0 25 (by omega) (by omega), gM 0 25 (by omega) (by omega)]; exact D.1
            · rw [g7 0 26 (by omega) (by omega), gM 0 26 (by omega) (by omega)]; exact D.2.1
            · rw [g7 12 0 (by omega) (by omega), gM 12 0 (by omega) (by omega)]; exact D.2.2.1
            · rw [g7 12 1 (by omega) (by omega), gM 12 1 (by omega) (by omega)]; exact D.2.2.2.1
            · rw [g7 13 i (by omega) (by omega), gM 13 i (by omega) (by omega)]; exact D.2.2.2.2.1 i hi
        · right
          have g1' : mX7_readGround_33 FU 0 σ3 = some (0, σ4) := g1
          have g2' : mX12_readsHeights_77 FU 0 τ2 = some (0, τ4) := g2
          exact ⟨σ4, τ4, g1', g2', g3, fun i j h1 h2 => by rw [g6 i j (by omega) h2, gS i j h1 h2], fun i j h1 h2 => by rw [g7 i j (by omega) (by omega), gM i j (by omega) (by omega)]⟩
      · exact absurd ok nok
    · rcases b3 with ⟨ok', -⟩ | ⟨-, q1⟩
      · exact absurd ok' ok
      · have n6 : ¬ σ2 68 6 = -1 := by rw [q1]; exact nI_m1 (by omega)
        rw [m1, bd_t, gd_t (by decide), lt_t, gd_t (by decide), su_s, if_pos rfl, if_neg n6]
        exact Or.inr ⟨σ2, _, rfl, rfl, ⟨tB tl tx (tE tl tx p), hB.2, q1, by rw [su_o (by decide)]; exact M.2.1⟩, (a7.tr b2).x, fun i j h1 h2 => by rw [su_o (by omega), a8 i j (by omega) (by omega)]⟩
  · rw [show mX7_readNumber 1 6 σ = _ from a1, bd_t, show mX12_reads 0 1 6 τ = _ from a2, bd_t, if_pos rfl, s_readN0 (a3.n h200), bd_t, if_neg (a3.n h200)]
    exact Or.inr ⟨σ1, τ1, rfl, rfl, a3, a4.x, a5.x⟩
end

/-! pure: planks, the call -/
section
variable {σ0 σ τ σ' τ' : St} {w h gn kn kE kS tl sn d t1 t2 n : Nat} {gr sz wo fo tx sk' sf st hg li pb pbx : Nat → Nat} {g : Gr} {P : Nat → Gr} {sh : Nat → Nat → Bool}
theorem s_seek_loop (cv : CV w h gn kn kE kS gr sz wo fo tl tx sn sk' sf st) (is : IS σ0 w h gn kn kE kS gr sz wo fo tl tx sn sk' sf st) (hh : ∀ i, i < 30 → g 0 i ≤ 9) (h30 : w * h ≤ 30) (hp : ∀ j, g 5 j < 4) {k i dd : Nat} (hk : k < kn) (hi : i < w * h) (hd : dd < 2 ^ 31) : ∀ (m N j : Nat) (a b : Option Nat) (σ : St), ZZ σ0 σ w h g (g 5) → ENC σ a b → RW σ 62 (RC w h kE kS (g 5) (g 0) gr (sz k) (fo k) i 99) → j + m = (RC w h kE kS (g 5) (g 0) gr (sz k) (fo k) i 99).length → ∃ σ', mX6_seek_49 (N + m + 1) (nI k) (nI i) (nI dd) (nI j) σ = some (0, σ') ∧ ZZ σ0 σ' w h g (g 5) ∧ ENC σ' (sk (fun c => E2 w h kE kS (g 5) (g 0) gr (sz k) (fo k) i c 99 == dd) (fun a b => E2 w h kE kS (g 5) (g 0) gr (sz k) (fo k) i a b == dd) (RC w h kE kS (g 5) (g 0) gr (sz k) (fo k) i) ((RC w h kE kS (g 5) (g 0) gr (sz k) (fo k) i 99).drop j) a b).1 (sk (fun c => E2 w h kE kS (g 5) (g 0) gr (sz k) (fo k) i c 99 == dd) (fun a b => E2 w h kE kS (g 5) (g 0) gr (sz k) (fo k) i a b == dd) (RC w h kE kS (g 5) (g 0) gr (sz k) (fo k) i) ((RC w h kE kS (g 5) (g 0) gr (sz k) (fo k) i 99).drop j) a b).2
  | 0, N, j, a, b, σ, Z, E, R, e => by
    have ln := R.2.2
    refine ⟨σ, ?_, Z, ?_⟩
    · rw [show N + 0 + 1 = N + 1 from rfl, mX6_seek_49, R.1, if_neg (nI_nlt (by omega) (by omega))]
    · rw [List.drop_eq_nil_of_le (by omega)]; exact E
  | m + 1, N, j, a, b, σ, Z, E, R, e => by
    have ln := R.2.2
    obtain ⟨dc, mem⟩ := drop_c (L := RC w h kE kS (g 5) (g 0) gr (sz k) (fo k) i 99) (j := j) (by omega)
    obtain ⟨c, hc⟩ : ∃ c, c = (RC w h kE kS (g 5) (g 0) gr (sz k) (fo k) i 99).getD j 0 := ⟨_, rfl⟩
    have Rj := R.2.1 j (by omega)
    rw [← hc] at dc mem Rj
    obtain ⟨f1, f2, f3⟩ := RC_free hi mem
    obtain ⟨a1, a2, a3⟩ := fre_of f1
    obtain ⟨σ1, g1, g2, g3⟩ := s_side is h30 Z (s := c) (by omega) a1
    have X1 := SX.of2 cv (is.fr2 (σ' := σ1) (fun p q hpq => g2.1 p q (by omega) (by omega) (by omega))) g2.2.1 hh
    rw [shutA_tog hp a3] at X1
    obtain ⟨σ2, u1, u2, u3, u4⟩ := s_goR X1 (r := 64) (by omega) hk hi
    have l := X1.lt (size := sz k) (f0 := fo k) hi
    have Z2 : ZZ σ0 σ2 w h g (tog (g 5) c) := g2.fr (fun p q hpq => u4 p q (by omega) (by omega))
    have E1' : ENC σ2 a b := (E.fr (σ' := σ1) (fun q => g3 61 q (by omega) (by omega))).fr (fun q => u4 61 q (by omega) (by omega))
    have u2' : σ2 64 0 = nI (E2 w h kE kS (g 5) (g 0) gr (sz k) (fo k) i c 99) := u2
    have l' : E2 w h kE kS (g 5) (g 0) gr (sz k) (fo k) i c 99 < w * h := l
    have step : ∃ (σ3 : St) (a' b' : Option Nat), (if nI (E2 w h kE kS (g 5) (g 0) gr (sz k) (fo k) i c 99) = nI dd then (bd (mX6_offerOne (nI c) σ2) fun _ s23 => mX6_seek_134 (mX6_seek_49 (N + m + 1)) (nI k) (nI i) (nI dd) (nI j) (nI c) s23) else if σ2 61 0 = 1 then mX6_seek_134 (mX6_seek_49 (N + m + 1)) (nI k) (nI i) (nI dd) (nI j) (nI c) σ2 else (bd (mX6_seekSecond (nI k) (nI i) (nI dd) (nI c) σ2) fun _ s20 => mX6_seek_134 (mX6_seek_49 (N + m + 1)) (nI k) (nI i) (nI dd) (nI j) (nI c) s20)) = mX6_seek_134 (mX6_seek_49 (N + m + 1)) (nI k) (nI i) (nI dd) (nI j) (nI c) σ3 ∧ ENC σ3 a' b' ∧ sk (fun c => E2 w h kE kS (g 5) (g 0) gr (sz k) (fo k) i c 99 == dd) (fun a b => E2 w h kE kS (g 5) (g 0) gr (sz k) (fo k) i a b == dd) (RC w h kE kS (g 5) (g 0) gr (sz k) (fo k) i) ((RC w h kE kS (g 5) (g 0) gr (sz k) (fo k) i 99).drop j) a b = sk (fun c => E2 w h kE kS (g 5) (g 0) gr (sz k) (fo k) i c 99 == dd) (fun a b => E2 w h kE kS (g 5) (g 0) gr (sz k) (fo k) i a b == dd) (RC w h kE kS (g 5) (g 0) gr (sz k) (fo k) i) ((RC w h kE kS (g 5) (g 0) gr (sz k) (fo k) i 99).drop (j + 1)) a' b' ∧ ZZ σ0 σ3 w h g (tog (g 5) c) ∧ ∀ p q, p = 62 ∨ p = 63 → σ3 p q = σ2 p q := by
      simp only [nI_inj (show E2 w h kE kS (g 5) (g 0) gr (sz k) (fo k) i c 99 < 2 ^ 31 by omega) hd]
      rw [dc]
      by_cases q : E2 w h kE kS (g 5) (g 0) gr (sz k) (fo k) i c 99 = dd
      · obtain ⟨σ3, v1, v2, v3⟩ := s_off1 E1' (c := c) (by omega)
        refine ⟨σ3, _, _, by rw [if_pos q, v1, bd_t], v2, ?_, Z2.fr (fun p q hpq => v3 p q (by omega)), fun p q hp => v3 p q (by omega)⟩
        rw [sk, if_pos (beq_iff_eq.mpr q)]
      · have qb : ¬ (E2 w h kE kS (g 5) (g 0) gr (sz k) (fo k) i c 99 == dd) = true := by rw [beq_eq_false_iff_ne.mpr q]; decide
        cases a with
        | some y =>
          refine ⟨σ2, some y, b, by rw [if_neg q, if_pos E1'.1], E1', ?_, Z2, fun _ _ _ => rfl⟩
          rw [sk, if_neg qb]; rfl
        | none =>
          have n1 : ¬ σ2 61 0 = 1 := by
            cases b with
            | some x => rw [E1'.1]; decide
            | none => rw [show σ2 61 0 = -9 from E1']; decide
          obtain ⟨σ3, v1, v2, v3, v4⟩ := s_sec cv is hh h30 hp hk hi hd f1 f3 (RC w h kE kS (g 5) (g 0) gr (sz k) (fo k) i c).length (19999 - (RC w h kE kS (g 5) (g 0) gr (sz k) (fo k) i c).length) 0 b σ2 Z2 E1' u3 (by omega)
          have ln2 : (RC w h kE kS (g 5) (g 0) gr (sz k) (fo k) i c).length ≤ 10 := u3.2.2
          rw [show 19999 - (RC w h kE kS (g 5) (g 0) gr (sz k) (fo k) i c).length + (RC w h kE kS (g 5) (g 0) gr (sz k) (fo k) i c).length + 1 = FU by unfold FU; omega] at v1
          refine ⟨σ3, none, _, ?_, v3, ?_, v2, v4⟩
          · rw [if_neg q, if_neg n1]
            unfold mX6_seekSecond
            rw [show mX6_seekSecond_3 FU (nI k) (nI i) (nI dd) (nI c) 0 σ2 = some (0, σ3) from v1, bd_t]
          · rw [sk, if_neg qb, if_neg (by decide), List.drop_zero]
    obtain ⟨σ3, a', b', w1, w2, w3, w4, w5⟩ := step
    obtain ⟨σ4, x1, x2, x3⟩ := s_side is h30 w4 (s := c) (by omega) a1
    rw [tog_tog] at x2
    have keep : ∀ p q, p = 62 ∨ p = 63 → σ4 p q = σ p q := fun p q h1 => by rw [x3 p q (by omega) (by omega), w5 p q h1, u4 p q (by omega) (by omega), g3 p q (by omega) (by omega)]
    obtain ⟨σ5, y1, y2, y3⟩ := s_seek_loop cv is hh h30 hp hk hi hd m N (j + 1) a' b' σ4 x2 (w2.fr (fun q => x3 61 q (by omega) (by omega))) (R.fr (fun q => keep 62 q (by omega)) (fun q => keep 63 q (by omega))) (by omega)
    refine ⟨σ5, ?_, y2, ?_⟩
    · rw [show N + (m + 1) + 1 = (N + m + 1) + 1 from rfl, mX6_seek_49, R.1, if_pos (nI_lt (by omega) (by omega)), gd_t (ib_nI (by omega) (by decide)), nx_nI (by omega), show σ 63 j = nI c from Rj, lt_t, g1, bd_t, u1, bd_t, u2', w1]
      unfold mX6_seek_134
      rw [x1, bd_t, lt_t, li1, nI_add]
      exact y1
    · rw [w3]; exact y3
theorem s_sideCode (X : SX σ w h sh hg gr kn sz fo) {x : Nat} (hx : x < 2 * (w * h)) : mX11_sideCode (nI x) σ = some (nI (10 * pr w (x / 2) + x % 2), σ) := by
  have h30 := X.1.1
  unfold mX11_sideCode
  rw [li2, div_nI (by omega) (by omega) (by omega), rem_nI (by omega) (by omega) (by omega), s_pairOf X (by omega), bd_t, li10, pk_mul, nI_add]
theorem m_toldSide (Y : MX τ w h kE kS li pb t1 t2 hg gr kn sz fo) {x : Nat} (hx : x < 2 * (w * h)) : mX12_toldSide (nI x) τ = some (nI (10 * pr w (x / 2) + x % 2), τ) := by
  have h30 := Y.n30
  unfold mX12_toldSide
  rw [if_neg (nI_m9 (by omega)), li2, div_nI (by omega) (by omega) (by omega), rem_nI (by omega) (by omega) (by omega), m_pairOf Y (by omega), bd_t, li10, pk_mul, nI_add]
theorem m_p150 (v4 v7 v8 t0 : Int32) (h7 : ¬ v7 = -9) : mX12_planks_150 v4 v7 v8 t0 τ = if v4 = 0 then some (v7, s_up (s_up τ 0 30 (-9)) 0 31 (-9)) else if v4 = 1 then (bd (mX12_toldSide v8 (s_up (s_up τ 0 30 (-9)) 0 31 (-9))) fun r s => some (r, s)) else (bd (mX12_toldSide t0 (s_up (s_up τ 0 30 (-9)) 0 31 (-9))) fun r s => some (r, s)) := by
  unfold mX12_planks_150
  rw [lt_t, lt_t, if_neg h7]
theorem m_p0 (v4 : Int32) : mX12_planks_117 v4 0 τ = mX12_planks_150 v4 0 (-9) (-9) τ := by
  unfold mX12_planks_117 mX12_planks_133
  rw [if_neg (show ¬ (0 : Int32) < 0 by decide), if_neg (show ¬ (0 : Int32) = 2 by decide)]
theorem m_p1 (v4 : Int32) : mX12_planks_117 v4 1 τ = mX12_planks_150 v4 1 (τ 0 30) (-9) τ := by
  unfold mX12_planks_117 mX12_planks_133
  rw [if_pos (show (0 : Int32) < 1 by decide), if_neg (show ¬ (1 : Int32) = 2 by decide)]
theorem m_p2 (v4 : Int32) : mX12_planks_117 v4 2 τ = mX12_planks_150 v4 2 (τ 0 30) (τ 0 31) τ := by
  unfold mX12_planks_117 mX12_planks_133
  rw [if_pos (show (0 : Int32) < 2 by decide), if_pos (show (2 : Int32) = 2 from rfl)]
theorem m_p9 (v4 : Int32) : mX12_planks_117 v4 (-9) τ = some (-9, s_up (s_up τ 0 30 (-9)) 0 31 (-9)) := by
  unfold mX12_planks_117 mX12_planks_133 mX12_planks_150
  rw [if_neg (show ¬ (0 : Int32) < -9 by decide), if_neg (show ¬ (-9 : Int32) = 2 by decide), lt_t, lt_t, if_pos (show (-9 : Int32) = -9 from rfl)]
theorem m_toldNone : mX12_toldSide (-9) τ = some (-5, τ) := by unfold mX12_toldSide; rw [if_pos rfl]
end
theorem sm_planks : Sm4 Inv mX11_planks mX12_planks := by
  intro a x y b σ τ I
  have I0 := I
  obtain ⟨w, h, gn, kn, kE, kS, gr, sz, wo, fo, tl, tx, sn, sk', sf, st, g, d, P, cv, im, is, ig, img, t1, t2⟩ := I
  have X := SX.of cv is ig.1 ig.2.2.1
  have Y := MX.of cv im ig.2.1 ig.2.2.1
  have h30 := X.1.1
  unfold mX11_planks mX12_planks
  rcases KIK.or kn a with ⟨k, ck⟩ | ck
  · rw [KIK.m Y ck, bd_t, if_neg n10]
    rcases PA.or w h x with ⟨i, ci⟩ | ci
    · have hi := ci.2.lt
      rw [PA.s X ci, bd_t, PA.m Y ci, bd_t, if_neg n10]
      rcases PA.or w h y with ⟨dd, cj⟩ | cj
      · have hj := cj.2.lt
        rw [PA.s X cj, bd_t, PA.m Y cj, bd_t, if_neg n10, KIK.s X ck, bd_t, if_neg n10, if_neg (nI_m1 (by omega)), if_neg (nI_m1 (by omega)), m_in2, bd_t]
        by_cases cb : ¬ b < 0 ∧ ¬ 2 < b
        · obtain ⟨hk, rfl⟩ := ck
          rw [if_neg cb.1, if_neg cb.2, decide_eq_true cb, z1_t, if_neg n10, PA.mb Y ci, bd_t, PA.mb Y cj, bd_t, lt_t, lt_t]
          -- the reference
          have q0 : s_up (s_up τ 0 30 (-9)) 0 31 (-9) = τ := by
            funext p q
            by_cases c1 : p = 0 ∧ q = 31
            · obtain ⟨rfl, rfl⟩ := c1; rw [su_s]; exact im.2.2.2.2.2.2.2.2.2.2.2.2.1.symm
            · rw [su_o (by omega)]
              by_cases c2 : p = 0 ∧ q = 30
              · obtain ⟨rfl, rfl⟩ := c2; rw [su_s]; exact im.2.2.2.2.2.2.2.2.2.2.2.1.symm
              · rw [su_o (by omega)]
          rw [q0]
          obtain ⟨τ1, m1, mq1⟩ := m_endOf Y hk hi
          have l := Y.lt (size := sz k) (f0 := fo k) hi
          -- the class
          obtain ⟨σ1, hσ1⟩ : ∃ σ1, σ1 = s_up (s_up (s_up σ 61 0 (-9)) 61 1 (-1)) 61 2 (-1) := ⟨_, rfl⟩
          have f1 : ∀ p q, p ≠ 61 → σ1 p q = σ p q := fun p q hp => by rw [hσ1, su_o (by omega), su_o (by omega), su_o (by omega)]
          obtain ⟨σ2, u1, u2, u3, u4⟩ := s_goR (X.q' (σ' := σ1) (fun p q hpq => f1 p q (by omega))) (r := 62) (by omega) hk hi
          obtain ⟨sg, sd⟩ := ig.1.split
          have hp := ig.2.2.1.2.1
          have Z2 : ZZ σ σ2 w h g (g 5) := by
            refine ⟨fun p q h1 h2 h3 => by rw [u4 p q (by omega) (by omega), f1 p q (by omega)], ?_, hp⟩
            refine (sg.fr (fun p q hpq => by rw [u4 p q (by omega) (by omega), f1 p q (by omega)])).cg (fun r _ i => ?_)
            unfold gup
            by_cases c : r = 5
            · rw [if_pos c, c]
            · rw [if_neg c]
          have ENC2 : ENC σ2 none none := by
            show σ2 61 0 = -9
            rw [u4 61 0 (by omega) (by omega), hσ1, su_o (by omega), su_o (by omega), su_s]
          have fin : ∀ σ5 τ5, ZZ σ σ5 w h g (g 5) → (∀ p q, ¬ (p = 0 ∧ 32 ≤ q ∧ q ≤ 34) → τ5 p q = τ p q) → Inv σ5 τ5 := by
            intro σ5 τ5 Z5 mq5
            refine Inv.nw cv im is img t1 t2 (fun p q hpq => Z5.1 p q (by omega) (by omega) (by omega)) (fun p q _ h2 => mq5 p q h2) (fun q _ => mq5 1 q (by omega)) (g' := g) (P' := P) ⟨SGo.join (Z5.2.1.cg (fun r _ i => ?_)) (sd.fr (fun p q hpq => Z5.1 p q (by omega) (by omega) (by omega))), ⟨by rw [mq5 1 _ (by omega)]; exact ig.2.1.1, ig.2.1.2.1.mv (fun j _ => mq5 1 _ (by omega)), fun kk hkk => (ig.2.1.2.2 kk hkk).mv (fun j _ => mq5 1 _ (by omega))⟩, ig.2.2⟩
            unfold gup
            by_cases c : r = 5
            · rw [if_pos c, c]
            · rw [if_neg c]
          have fin30 : ∀ τ5, MQx τ τ5 → MQu τ (s_up (s_up τ5 0 30 (-9)) 0 31 (-9)) := by
            intro τ5 mq5 p q h1
            by_cases c1 : p = 0 ∧ q = 31
            · obtain ⟨rfl, rfl⟩ := c1; rw [su_s]; exact im.2.2.2.2.2.2.2.2.2.2.2.2.1.symm
            · rw [su_o (by omega)]
              by_cases c2 : p = 0 ∧ q = 30
              · obtain ⟨rfl, rfl⟩ := c2; rw [su_s]; exact im.2.2.2.2.2.2.2.2.2.2.2.1.symm
              · rw [su_o (by omega), mq5 p q (by omega)]
          have sx : ∀ σ5, ZZ σ σ5 w h g (g 5) → SX σ5 w h (shutA w h kE kS (g 5) 99 99) (g 0) gr kn sz fo := fun σ5 Z5 => SX.of2 cv (is.fr2 (fun p q hpq => Z5.1 p q (by omega) (by omega) (by omega))) Z5.2.1 ig.2.2.1.1
          rw [m1, bd_t]
          unfold mX6_seek
          rw [lt_t, lt_t, lt_t, ← hσ1, u1, bd_t, u2]
          simp only [nI_inj (show (rl (shutA w h kE kS (g 5) 99 99) (g 0) gr w (sz k) (fo k) i).1 < 2 ^ 31 by omega) (show dd < 2 ^ 31 by omega)]
          by_cases c0 : (rl (shutA w h kE kS (g 5) 99 99) (g 0) gr w (sz k) (fo k) i).1 = dd
          · rw [if_pos c0, if_pos c0, lt_t, bd_t, su_s, if_neg (by decide)]
            have Z3 : ZZ σ (s_up σ2 61 0 0) w h g (g 5) := Z2.fr (fun p q hpq => su_o (by omega))
            have M := fin30 τ1 mq1.x
            rw [m_p0, m_p150 _ _ _ _ (by decide), m_toldNone, bd_t]
            have J := fin _ _ Z3 M
            by_cases b0 : b = 0
            · exact ⟨0, _, _, by rw [if_pos b0], by rw [if_pos b0], J⟩
            · have : (0 : Int32) < b := by
                rcases wh3.mp cb with q | q | q
                · exact absurd q b0
                · rw [q]; decide
                · rw [q]; decide
              refine ⟨-5, _, _, by rw [if_neg b0, if_pos this], ?_, J⟩
              rw [if_neg b0]
              split <;> rfl
          · rw [if_neg c0, if_neg c0]
            have ln : (RC w h kE kS (g 5) (g 0) gr (sz k) (fo k) i 99).length ≤ 10 := u3.2.2
            obtain ⟨σ5, s1, s2, s3⟩ := s_seek_loop cv is ig.2.2.1.1 h30 hp hk hi (show dd < 2 ^ 31 by omega) (RC w h kE kS (g 5) (g 0) gr (sz k) (fo k) i 99).length (19999 - (RC w h kE kS (g 5) (g 0) gr (sz k) (fo k) i 99).length) 0 none none σ2 Z2 ENC2 u3 (by omega)
            rw [show 19999 - (RC w h kE kS (g 5) (g 0) gr (sz k) (fo k) i 99).length + (RC w h kE kS (g 5) (g 0) gr (sz k) (fo k) i 99).length + 1 = FU by unfold FU; omega] at s1
            rw [List.drop_zero] at s3
            have s1' : mX6_seek_49 FU (nI k) (nI i) (nI dd) 0 σ2 = some (0, σ5) := s1
            rw [s1', bd_t]
            have KEY := sk_fs (fr := fre w h kE kS (g 5)) (e1 := fun c => E2 w h kE kS (g 5) (g 0) gr (sz k) (fo k) i c 99 == dd) (e2 := fun a b => E2 w h kE kS (g 5) (g 0) gr (sz k) (fo k) i a b == dd) (N := 2 * (w * h)) (L := RC w h kE kS (g 5) (g 0) gr (sz k) (fo k) i 99) (RC := RC w h kE kS (g 5) (g 0) gr (sz k) (fo k) i) (by omega) (fun c hc => ⟨(RC_free hi hc).1, (RC_free hi hc).2.2⟩) (fun c _ _ o ho => ⟨(RC_free hi ho).1, (RC_free hi ho).2.1, (RC_free hi ho).2.2⟩)
              (fun s _ hs => by
                refine beq_eq_false_iff_ne.mpr ?_
                unfold E2 rl
                rw [rolA_rm (fun j v _ => shutA_s s j v) 10 i 4 0 (2 ^ i) hs]
                exact c0)
              (fun s t hs ht => by
                refine beq_eq_false_iff_ne.mpr ?_
                rw [← E2_alt h30 hi]
                unfold rl
                rw [rolA_rm (s := t) (sh := shutA w h kE kS (g 5) s 99) (fun j v _ => rfl) 10 i 4 0 (2 ^ i) (by rw [rolC_rm (fun j v _ => shutA_s s j v) 10 i 4 hs]; exact ht), rolA_rm (fun j v _ => shutA_s s j v) 10 i 4 0 (2 ^ i) hs]
                exact c0)
              (fun c o ho => by
                show (E2 w h kE kS (g 5) (g 0) gr (sz k) (fo k) i c o == dd) = (E2 w h kE kS (g 5) (g 0) gr (sz k) (fo k) i c 99 == dd)
                rw [← E2_alt h30 hi]
                unfold rl
                rw [rolA_rm (s := o) (sh := shutA w h kE kS (g 5) c 99) (fun j v _ => rfl) 10 i 4 0 (2 ^ i) ho]
                rfl)
              (fun s t => by unfold E2; rw [shutA_comm])
            obtain ⟨τ2, a1, a2, a3, b1, b2, a4⟩ := m_try1 hk hi (show dd < 2 ^ 31 by omega) (2 * (w * h)) (19999 - 2 * (w * h)) 0 τ1 99 99 (Y.q mq1) (by omega)
            rw [show 19999 - 2 * (w * h) + 2 * (w * h) + 1 = FU by unfold FU; omega] at a1
            have a1' : mX12_triesPlanks (nI k) (nI i) (nI dd) 1 τ1 = _ := a1
            obtain ⟨v1, hv1⟩ : ∃ v1, v1 = fs (fun s => ift (fre w h kE kS (g 5) s && (E2 w h kE kS (g 5) (g 0) gr (sz k) (fo k) i s 99 == dd)) s) 0 (2 * (w * h)) := ⟨_, rfl⟩
            rw [← hv1] at a1' a3
            obtain ⟨K1, K2⟩ := KEY
            rw [K1, ← hv1] at s3
            rw [K1, ← hv1] at K2
            have L1 := fs_LST (p := fun s => fre w h kE kS (g 5) s && (E2 w h kE kS (g 5) (g 0) gr (sz k) (fo k) i s 99 == dd)) (2 * (w * h)) 0
            rw [← hv1] at L1
            rw [a1', bd_t]
            have sx5 := sx σ5 s2
            cases hv : v1 with
            | some x =>
              rw [hv] at s3 a3 L1
              obtain ⟨n1, n2, n3⟩ := s3
              have t30 := a3 x rfl
              have hx : x < 2 * (w * h) := by have := (L1.2 x rfl).1.2.1; omega
              have M := fin30 τ2 (mq1.x.tr a2)
              have J := fin σ5 _ s2 M
              rw [n1, if_neg (by decide), show z1 (some x).isSome = 1 from rfl, if_neg n10]
              rw [m_p1, m_p150 _ _ _ _ (by decide), t30, m_toldNone, m_toldSide (Y.q M) hx, bd_t, bd_t, n2, s_sideCode sx5 hx, bd_t]
              rcases wh3.mp cb with q | q | q
              · subst q; exact ⟨1, σ5, _, by rw [if_pos rfl], by rw [if_pos rfl], J⟩
              · subst q; exact ⟨_, σ5, _, by rw [if_neg (by decide), if_neg (by decide), if_pos rfl], by rw [if_neg (by decide), if_pos rfl], J⟩
              · subst q; exact ⟨-5, σ5, _, by rw [if_neg (by decide), if_pos (by decide)], by rw [if_neg (by decide), if_neg (by decide)], J⟩
            | none =>
              rw [hv] at s3
              have K3 := K2 hv
              obtain ⟨τ3, c1, c2, c3, d1, d2, c4⟩ := m_try2 hk hi (show dd < 2 ^ 31 by omega) (2 * (w * h)) (19999 - 2 * (w * h)) 0 τ2 b1 b2 a4 (by omega)
              rw [show 19999 - 2 * (w * h) + 2 * (w * h) + 1 = FU by unfold FU; omega] at c1
              have c1' : mX12_triesPlanks (nI k) (nI i) (nI dd) 2 τ2 = _ := c1
              obtain ⟨v2, hv2⟩ : ∃ v2, v2 = fs (M2 (fre w h kE kS (g 5)) (fun a b => E2 w h kE kS (g 5) (g 0) gr (sz k) (fo k) i a b == dd) (2 * (w * h))) 0 (2 * (w * h)) := ⟨_, rfl⟩
              rw [K3, ← hv2] at s3
              rw [← hv2] at c1' c3
              have L2 := fs2_LST (fr := fre w h kE kS (g 5)) (e2 := fun a b => E2 w h kE kS (g 5) (g 0) gr (sz k) (fo k) i a b == dd) (N := 2 * (w * h)) (by omega) (2 * (w * h)) 0 (by omega)
              rw [← hv2] at L2
              rw [show z1 (none : Option Nat).isSome = 0 from rfl, if_pos rfl, c1', bd_t]
              have M := fin30 τ3 ((mq1.x.tr a2).tr c2)
              have J := fin σ5 _ s2 M
              cases hw : v2 with
              | some x =>
                rw [hw] at s3 c3 L2
                obtain ⟨n1, n2, n3, n4⟩ := s3
                obtain ⟨t30, t31, -, -⟩ := c3 x rfl
                obtain ⟨⟨s, t, -, q1, q2, -, -, -, q3⟩, -⟩ := L2.2 x rfl
                have hx1 : x / 100 < 2 * (w * h) := by omega
                have hx2 : x % 100 < 2 * (w * h) := by omega
                rw [n1, if_neg (by decide), show z1 (some x).isSome = 1 from rfl, if_neg n10]
                rw [m_p2, m_p150 _ _ _ _ (by decide), t30, t31, m_toldSide (Y.q M) hx1, m_toldSide (Y.q M) hx2, bd_t, bd_t, n2, n3, s_sideCode sx5 hx1, s_sideCode sx5 hx2, bd_t, bd_t]
                rcases wh3.mp cb with q | q | q
                · subst q; exact ⟨2, σ5, _, by rw [if_pos rfl], by rw [if_pos rfl], J⟩
                · subst q; exact ⟨_, σ5, _, by rw [if_neg (by decide), if_neg (by decide), if_pos rfl], by rw [if_neg (by decide), if_pos rfl], J⟩
                · subst q; exact ⟨_, σ5, _, by rw [if_neg (by decide), if_neg (by decide), if_neg (by decide)], by rw [if_neg (by decide), if_neg (by decide)], J⟩
              | none =>
                rw [hw] at s3
                rw [show z1 (none : Option Nat).isSome = 0 from rfl, if_pos rfl, if_pos (show σ5 61 0 = -9 from s3), show σ5 61 0 = -9 from s3]
                rw [m_p9]
                exact ⟨-9, σ5, _, rfl, rfl, J⟩
        · rw [decide_eq_false cb, z1_f, if_pos rfl]
          refine ⟨-1, σ, τ, ?_, rfl, I0⟩
          by_cases c0 : b < 0
          · rw [if_pos c0]
          · rw [if_neg c0, if_pos (Classical.byContradiction fun q => cb ⟨c0, q⟩)]
      · rw [PA.s0 X cj, bd_t, PA.mn Y cj, bd_t, if_pos rfl, KIK.s X ck, bd_t, if_neg n10, if_neg (nI_m1 (by omega)), if_pos rfl]
        exact ⟨_, σ, τ, rfl, rfl, I0⟩
    · rw [PA.s0 X ci, bd_t, PA.mn Y ci, bd_t, if_pos rfl]
      rcases PA.or w h y with ⟨j, cj⟩ | cj
      · rw [PA.s X cj, bd_t, KIK.s X ck, bd_t, if_neg n10, if_pos rfl]
        exact ⟨_, σ, τ, rfl, rfl, I0⟩
      · rw [PA.s0 X cj, bd_t, KIK.s X ck, bd_t, if_neg n10, if_pos rfl]
        exact ⟨_, σ, τ, rfl, rfl, I0⟩
  · rw [KIK.mn Y ck, bd_t, if_pos rfl]
    refine ⟨-1, σ, τ, ?_, rfl, I0⟩
    rcases PA.or w h x with ⟨i, ci⟩ | ci <;> rcases PA.or w h y with ⟨j, cj⟩ | cj
    · rw [PA.s X ci, bd_t, PA.s X cj, bd_t, KIK.s0 X ck, bd_t, if_pos rfl]
    · rw [PA.s X ci, bd_t, PA.s0 X cj, bd_t, KIK.s0 X ck, bd_t, if_pos rfl]
    · rw [PA.s0 X ci, bd_t, PA.s X cj, bd_t, KIK.s0 X ck, bd_t, if_pos rfl]
    · rw [PA.s0 X ci, bd_t, PA.s0 X cj, bd_t, KIK.s0 X ck, bd_t, if_pos rfl]

/-! pure: feet -/
theorem pred_nI (c : Nat) : nI (c + 1) + (-1) = nI c := by
  rw [← Int32.sub_eq_add_neg, li1, sub_nI (by omega), Nat.add_sub_cancel]
def sdF (a b : Nat) : Nat → Nat
  | 0 => 1
  | 1 => 1
  | c + 2 => if a % (c + 2) = 0 ∧ b % (c + 2) = 0 then c + 2 else sdF a b (c + 1)
theorem s_sd {σ : St} {a b : Nat} (ha : a < 100) (hb : b < 100) : ∀ (c N : Nat), c < 100 → mX11_sharedDivisor_2 (N + c + 1) (nI a) (nI b) (nI c) σ = some (nI (sdF a b c), σ)
  | 0, N, _ => by rw [mX11_sharedDivisor_2, if_neg (by decide)]; rfl
  | 1, N, _ => by rw [mX11_sharedDivisor_2, if_neg (by decide)]; rfl
  | c + 2, N, hc => by
    have L := s_sd (σ := σ) ha hb (c + 1) N (by omega)
    have nz : ¬ nI (c + 2) = 0 := nI_nz (by omega) (by omega)
    rw [show N + (c + 2) + 1 = (N + (c + 1) + 1) + 1 from rfl, mX11_sharedDivisor_2, if_pos (show 1 < nI (c + 2) from nI_lt (a := 1) (by omega) (by omega)), gd_t nz, gd_t nz, rem_nI (by omega) (by omega) (by omega), rem_nI (by omega) (by omega) (by omega)]
    have l1 : a % (c + 2) < c + 2 := Nat.mod_lt _ (by omega)
    have l2 : b % (c + 2) < c + 2 := Nat.mod_lt _ (by omega)
    unfold mX11_sharedDivisor_21 sdF
    simp only [lt_t, li0, nI_inj (show a % (c + 2) < 2 ^ 31 by omega) (show 0 < 2 ^ 31 by decide), nI_inj (show b % (c + 2) < 2 ^ 31 by omega) (show 0 < 2 ^ 31 by decide), pred_nI (c + 1)]
    by_cases c1 : a % (c + 2) = 0
    · by_cases c2 : b % (c + 2) = 0
      · rw [if_pos c1, if_pos c2, if_pos ⟨c1, c2⟩]
      · rw [if_pos c1, if_neg c2, if_neg (fun q => c2 q.2)]; exact L
    · rw [if_neg c1, if_neg (fun q => c1 q.1)]; exact L
theorem m_dv {τ : St} : ∀ (n a b : Nat), a < 100 → b < 100 → b < n → mX12_divisor_4 n (nI a) (nI b) τ = some (nI (Nat.gcd b a), τ)
  | 0, a, b, _, _, h => absurd h (Nat.not_lt_zero b)
  | n + 1, a, b, ha, hb, h => by
    rw [mX12_divisor_4]
    by_cases c : b = 0
    · subst c; rw [if_pos (show nI 0 = 0 from rfl), Nat.gcd_zero_left]
    · have nz : ¬ nI b = 0 := nI_nz (by omega) (by omega)
      have l1 : a % b < b := Nat.mod_lt _ (by omega)
      rw [if_neg nz, gd_t nz, rem_nI (by omega) (by omega) (by omega), lt_t, m_dv n b (a % b) hb (by omega) (by omega), Nat.gcd_rec b a]
theorem sd_gcd : ∀ u, u < 6 → ∀ l, l < 6 → 0 < l → sdF u l 5 = Nat.gcd l u ∧ 0 < Nat.gcd l u ∧ Nat.gcd l u < 100 := by decide +kernel
/-- the cells beside a cell, on the class's side -/
def BS (σ : St) (w h : Nat) : Prop := ∀ i, i < w * h → ∀ v, v < 4 → σ 14 (4 * i + v) = if edge w h i v then -1 else nI (nbr w i v)
theorem BS.q {σ σ' : St} {w h : Nat} (B : BS σ w h) (q : SQu σ σ') : BS σ' w h := fun i hi v hv => by rw [q 14 _ (by decide) (by decide)]; exact B i hi v hv
def fL (w h i : Nat) : Nat → Nat
  | 0 => 1
  | v + 1 => fL w h i v + if edge w h i v then 0 else 1
def fU (f : Nat → Bool) (w h i : Nat) : Nat → Nat
  | 0 => if f i then 1 else 0
  | v + 1 => fU f w h i v + if edge w h i v then 0 else if f (nbr w i v) then 1 else 0
theorem fL_s (w h i v : Nat) : fL w h i (v + 1) = fL w h i v + if edge w h i v then 0 else 1 := rfl
theorem fU_s (f : Nat → Bool) (w h i v : Nat) : fU f w h i (v + 1) = fU f w h i v + if edge w h i v then 0 else if f (nbr w i v) then 1 else 0 := rfl
theorem fL_le (w h i : Nat) : ∀ v, 1 ≤ fL w h i v ∧ fL w h i v ≤ 1 + v
  | 0 => by unfold fL; omega
  | v + 1 => by have := fL_le w h i v; unfold fL; split <;> omega
theorem fU_le (f : Nat → Bool) (w h i : Nat) : ∀ v, fU f w h i v ≤ 1 + v
  | 0 => by unfold fU; split <;> omega
  | v + 1 => by have := fU_le f w h i v; unfold fU; split <;> (try split) <;> omega
section
variable {σ τ σ' τ' : St} {w h gn kn kE kS tl sn d t1 t2 n : Nat} {gr sz wo fo tx sk sf st hg li pb : Nat → Nat} {g : Gr} {P : Nat → Gr} {sh : Nat → Nat → Bool}
theorem s_feet_loop {k i dd : Nat} {kk : Int32 → Int32 → Int32 → St → Option (Int32 × St)} {v4 : Int32} (hk : k < kn) (hi : i < w * h) (hd : dd < 2 ^ 31) : ∀ (m N v : Nat) (σ : St), SX σ w h sh hg gr kn sz fo → BS σ w h → v + m = 4 → ∃ σ', mX11_feet_78 kk (N + m + 1) (nI k) v4 (nI i) (nI dd) (nI (fU (fun j => (rl sh hg gr w (sz k) (fo k) j).1 == dd) w h i v)) (nI (fL w h i v)) (nI v) σ = kk v4 (nI (fU (fun j => (rl sh hg gr w (sz k) (fo k) j).1 == dd) w h i 4)) (nI (fL w h i 4)) σ' ∧ SQu σ σ'
  | 0, N, v, σ, X, B, e => by
    refine ⟨σ, ?_, SQu.rfl' σ⟩
    rw [show N + 0 + 1 = N + 1 from rfl, mX11_feet_78, li4, if_neg (nI_nlt (by omega) (by omega)), show v = 4 by omega]
  | m + 1, N, v, σ, X, B, e => by
    have h30 := X.1.1
    rw [show N + (m + 1) + 1 = (N + m + 1) + 1 from rfl, mX11_feet_78, li4, if_pos (nI_lt (by omega) (by omega))]
    unfold mX2_besideOf
    rw [li4, pk_mul, nI_add, gd_t (ib_nI (by omega) (by decide)), bd_t, nx_nI (by omega), show (10 + 4 : Nat) = 14 from rfl, B i hi v (by omega)]
    cases he : edge w h i v with
    | true =>
      obtain ⟨σ2, e2, q2⟩ := s_feet_loop (kk := kk) (v4 := v4) hk hi hd m N (v + 1) σ X B (by omega)
      refine ⟨σ2, ?_, q2⟩
      rw [fU_s _ w h i v, fL_s w h i v] at e2
      rw [he, if_pos rfl, Nat.add_zero, if_pos rfl, Nat.add_zero] at e2
      rw [if_pos rfl, if_pos rfl, mX11_feet_128, lt_t, li1, nI_add]
      exact e2
    | false =>
      have hn := nbr_lt (pos_of hi) hi (show v < 4 by omega) he
      obtain ⟨σ1, e1, q1⟩ := s_endsAt X hk hn hd
      obtain ⟨σ2, e2, q2⟩ := s_feet_loop (kk := kk) (v4 := v4) hk hi hd m N (v + 1) σ1 (X.q q1) (B.q q1) (by omega)
      refine ⟨σ2, ?_, q1.tr q2⟩
      rw [fU_s _ w h i v, fL_s w h i v] at e2
      rw [he, if_neg Bool.false_ne_true, if_neg Bool.false_ne_true] at e2
      rw [if_neg Bool.false_ne_true, if_neg (nI_m1 (by omega)), lt_t, e1, bd_t]
      unfold mX11_feet_125 mX11_feet_128
      simp only [lt_t]
      cases hb : (rl sh hg gr w (sz k) (fo k) (nbr w i v)).1 == dd with
      | true =>
        simp only [hb, if_true] at e2
        rw [z1_t, if_neg n10, li1, nI_add, nI_add, nI_add]
        exact e2
      | false =>
        simp only [hb, Bool.false_eq_true, if_false] at e2
        rw [z1_f, if_pos rfl, li0, nI_add, li1, nI_add, nI_add]
        exact e2
theorem m_feet_loop {k i dd : Nat} {kk : Int32 → Int32 → Int32 → St → Option (Int32 × St)} {v4 : Int32} (hk : k < kn) (hi : i < w * h) (hd : dd < 2 ^ 31) : ∀ (m N v : Nat) (τ : St), MX τ w h kE kS li pb t1 t2 hg gr kn sz fo → v + m = 4 → ∃ τ', mX12_feet_76 kk (N + m + 1) (nI k) v4 (nI i) (nI dd) (nI (fL w h i v)) (nI (fU (fun j => (rl (shutA w h kE kS pb t1 t2) hg gr w (sz k) (fo k) j).1 == dd) w h i v)) (nI v) τ = kk v4 (nI (fL w h i 4)) (nI (fU (fun j => (rl (shutA w h kE kS pb t1 t2) hg gr w (sz k) (fo k) j).1 == dd) w h i 4)) τ' ∧ MQu τ τ'
  | 0, N, v, τ, Y, e => by
    refine ⟨τ, ?_, MQu.rfl' τ⟩
    rw [show N + 0 + 1 = N + 1 from rfl, mX12_feet_76, li4, if_neg (nI_nlt (by omega) (by omega)), show v = 4 by omega]
  | m + 1, N, v, τ, Y, e => by
    have h30 := Y.n30
    have M := Y.1 (pos_of hi)
    rw [show N + (m + 1) + 1 = (N + m + 1) + 1 from rfl, mX12_feet_76, li4, if_pos (nI_lt (by omega) (by omega)), m_edge M.1 hi (by omega), bd_t]
    cases he : edge w h i v with
    | true =>
      obtain ⟨τ2, e2, q2⟩ := m_feet_loop (kk := kk) (v4 := v4) hk hi hd m N (v + 1) τ Y (by omega)
      refine ⟨τ2, ?_, q2⟩
      rw [fU_s _ w h i v, fL_s w h i v] at e2
      rw [he, if_pos rfl, Nat.add_zero, if_pos rfl, Nat.add_zero] at e2
      rw [z1_t, if_neg n10, mX12_feet_124, lt_t, li1, nI_add]
      exact e2
    | false =>
      have hn := nbr_lt (pos_of hi) hi (show v < 4 by omega) he
      obtain ⟨τ1, e1, q1⟩ := m_endOf Y hk hn
      have l := Y.lt (size := sz k) (f0 := fo k) hn
      obtain ⟨τ2, e2, q2⟩ := m_feet_loop (kk := kk) (v4 := v4) hk hi hd m N (v + 1) τ1 (Y.q q1) (by omega)
      refine ⟨τ2, ?_, q1.tr q2⟩
      rw [fU_s _ w h i v, fL_s w h i v] at e2
      rw [he, if_neg Bool.false_ne_true, if_neg Bool.false_ne_true] at e2
      rw [z1_f, if_pos rfl, lt_t, m_beside M.1 hi (by omega) he, bd_t, e1, bd_t]
      unfold mX12_feet_121 mX12_feet_124
      simp only [lt_t, nI_inj (show (rl (shutA w h kE kS pb t1 t2) hg gr w (sz k) (fo k) (nbr w i v)).1 < 2 ^ 31 by omega) hd]
      by_cases hb : (rl (shutA w h kE kS pb t1 t2) hg gr w (sz k) (fo k) (nbr w i v)).1 = dd
      · simp only [beq_iff_eq.mpr hb, if_true] at e2
        rw [if_pos hb, li1, nI_add, nI_add, nI_add]
        exact e2
      · simp only [beq_eq_false_iff_ne.mpr hb, Bool.false_eq_true, if_false] at e2
        rw [if_neg hb, li0, li1, nI_add, nI_add, nI_add]
        exact e2
theorem BS.of (is : IS σ w h gn kn kE kS gr sz wo fo tl tx sn sk sf st) : BS σ w h := fun i hi v hv => (is.2.2.2.2.2.2.2.2.1 i hi).2.2 v hv
end
theorem sm_feet : Sm4 Inv mX11_feet mX12_feet := by
  intro a x y b σ τ I
  have I0 := I
  obtain ⟨w, h, gn, kn, kE, kS, gr, sz, wo, fo, tl, tx, sn, sk, sf, st, g, d, P, cv, im, is, ig, img, t1, t2⟩ := I
  have X := SX.of cv is ig.1 ig.2.2.1
  have Y := MX.of cv im ig.2.1 ig.2.2.1
  have h30 := X.1.1
  unfold mX11_feet mX12_feet
  rcases KIK.or kn a with ⟨k, ck⟩ | ck
  · rw [KIK.m Y ck, bd_t, if_neg n10]
    rcases PA.or w h x with ⟨i, ci⟩ | ci
    · have hi := ci.2.lt
      rw [PA.s X ci, bd_t, PA.m Y ci, bd_t, if_neg n10]
      rcases PA.or w h y with ⟨j, cj⟩ | cj
      · have hj := cj.2.lt
        rw [PA.s X cj, bd_t, PA.m Y cj, bd_t, if_neg n10, KIK.s X ck, bd_t, if_neg n10, if_neg (nI_m1 (by omega)), if_neg (nI_m1 (by omega)), m_in1, bd_t]
        obtain ⟨hk, rfl⟩ := ck
        by_cases cb : ¬ b < 0 ∧ ¬ 1 < b
        · rw [decide_eq_true cb, z1_t, if_neg n10, PA.mb Y ci, bd_t, PA.mb Y cj, bd_t]
          have eS : ∀ u : Option (Int32 × St), (if b = 0 then mX11_feet_53 (nI k) b (nI i) (nI j) σ else if b = 1 then mX11_feet_53 (nI k) b (nI i) (nI j) σ else u) = mX11_feet_53 (nI k) b (nI i) (nI j) σ := by
            intro u
            rcases wh2.mp cb with q | q
            · rw [if_pos q]
            · rw [if_neg (by rw [q]; decide), if_pos q]
          rw [eS]
          unfold mX11_feet_53
          obtain ⟨σ1, e1, p1⟩ := s_endsAt X hk hi (dd := j) (by omega)
          obtain ⟨τ1, f1, q1⟩ := m_endOf Y hk hi
          have l := Y.lt (size := sz k) (f0 := fo k) hi
          rw [e1, bd_t, f1, bd_t]
          obtain ⟨σ2, e2, p2⟩ := s_feet_loop (kk := mX11_feet_134) (v4 := b) hk hi (show j < 2 ^ 31 by omega) 4 19995 0 σ1 (X.q p1) ((BS.of is).q p1) (by omega)
          obtain ⟨τ2, f2, q2⟩ := m_feet_loop (kk := mX12_feet_130) (v4 := b) hk hi (show j < 2 ^ 31 by omega) 4 19995 0 τ1 (Y.q q1) (by omega)
          rw [show 19995 + 4 + 1 = FU from rfl] at e2 f2
          have eS : (if z1 ((rl (shutA w h kE kS (g 5) 99 99) (g 0) gr w (sz k) (fo k) i).1 == j) = 0 then mX11_feet_70 (nI k) b (nI i) (nI j) 0 σ1 else mX11_feet_70 (nI k) b (nI i) (nI j) 1 σ1) = mX11_feet_134 b (nI (fU (fun q => (rl (shutA w h kE kS (g 5) 99 99) (g 0) gr w (sz k) (fo k) q).1 == j) w h i 4)) (nI (fL w h i 4)) σ2 := by
            rw [← e2]
            unfold mX11_feet_70 fU fL
            cases hb : (rl (shutA w h kE kS (g 5) 99 99) (g 0) gr w (sz k) (fo k) i).1 == j with
            | true => first | rfl | (simp only [hb]; rfl)
            | false => first | rfl | (simp only [hb]; rfl)
          have eM : (if nI (rl (shutA w h kE kS (g 5) 99 99) (g 0) gr w (sz k) (fo k) i).1 = nI j then mX12_feet_71 (nI k) b (nI i) (nI j) 1 1 τ1 else mX12_feet_71 (nI k) b (nI i) (nI j) 1 0 τ1) = mX12_feet_130 b (nI (fL w h i 4)) (nI (fU (fun q => (rl (shutA w h kE kS (g 5) 99 99) (g 0) gr w (sz k) (fo k) q).1 == j) w h i 4)) τ2 := by
            rw [← f2]
            unfold mX12_feet_71 fU fL
            simp only [nI_inj (show (rl (shutA w h kE kS (g 5) 99 99) (g 0) gr w (sz k) (fo k) i).1 < 2 ^ 31 by omega) (show j < 2 ^ 31 by omega)]
            by_cases hb : (rl (shutA w h kE kS (g 5) 99 99) (g 0) gr w (sz k) (fo k) i).1 = j
            · simp only [beq_iff_eq.mpr hb, if_pos hb]; rfl
            · simp only [beq_eq_false_iff_ne.mpr hb, if_neg hb]; rfl
          rw [eS, eM]
          obtain ⟨u1, u2⟩ := fL_le w h i 4
          have u3 := fU_le (fun q => (rl (shutA w h kE kS (g 5) 99 99) (g 0) gr w (sz k) (fo k) q).1 == j) w h i 4
          generalize fU (fun q => (rl (shutA w h kE kS (g 5) 99 99) (g 0) gr w (sz k) (fo k) q).1 == j) w h i 4 = U at *
          generalize fL w h i 4 = L at *
          obtain ⟨r1, r2, r3⟩ := sd_gcd U (by omega) L (by omega) (by omega)
          unfold mX11_feet_134 mX12_feet_130 mX11_sharedDivisor mX12_divisor
          have S := s_sd (σ := σ2) (a := U) (b := L) (by omega) (by omega) 5 19994 (by omega)
          rw [show 19994 + 5 + 1 = FU from rfl, show nI 5 = 5 from rfl, r1] at S
          rw [S, bd_t, m_dv FU U L (by omega) (by omega) (by unfold FU; omega), bd_t]
          by_cases c0 : b = 0
          · exact ⟨_, σ2, τ2, by rw [if_pos c0, gd_t (nI_nz r2 (by omega))], by rw [if_pos c0, gd_t (nI_nz r2 (by omega))], I0.q (p1.tr p2) (q1.tr q2)⟩
          · exact ⟨_, σ2, τ2, by rw [if_neg c0, gd_t (nI_nz r2 (by omega))], by rw [if_neg c0, gd_t (nI_nz r2 (by omega))], I0.q (p1.tr p2) (q1.tr q2)⟩
        · rw [decide_eq_false cb, z1_f, if_pos rfl, if_neg (fun q => cb (wh2.mpr (Or.inl q))), if_neg (fun q => cb (wh2.mpr (Or.inr q)))]
          exact ⟨_, σ, τ, rfl, rfl, I0⟩
      · rw [PA.s0 X cj, bd_t, PA.mn Y cj, bd_t, if_pos rfl, KIK.s X ck, bd_t, if_neg n10, if_neg (nI_m1 (by omega)), if_pos rfl]
        exact ⟨_, σ, τ, rfl, rfl, I0⟩
    · rw [PA.s0 X ci, bd_t, PA.mn Y ci, bd_t, if_pos rfl]
      rcases PA.or w h y with ⟨j, cj⟩ | cj
      · rw [PA.s X cj, bd_t, KIK.s X ck, bd_t, if_neg n10, if_pos rfl]
        exact ⟨_, σ, τ, rfl, rfl, I0⟩
      · rw [PA.s0 X cj, bd_t, KIK.s X ck, bd_t, if_neg n10, if_pos rfl]
        exact ⟨_, σ, τ, rfl, rfl, I0⟩
  · rw [KIK.mn Y ck, bd_t, if_pos rfl]
    refine ⟨-1, σ, τ, ?_, rfl, I0⟩
    rcases PA.or w h x with ⟨i, ci⟩ | ci <;> rcases PA.or w h y with ⟨j, cj⟩ | cj
    · rw [PA.s X ci, bd_t, PA.s X cj, bd_t, KIK.s0 X ck, bd_t, if_pos rfl]
    · rw [PA.s X ci, bd_t, PA.s0 X cj, bd_t, KIK.s0 X ck, bd_t, if_pos rfl]
    · rw [PA.s0 X ci, bd_t, PA.s X cj, bd_t, KIK.s0 X ck, bd_t, if_pos rfl]
    · rw [PA.s0 X ci, bd_t, PA.s0 X cj, bd_t, KIK.s0 X ck, bd_t, if_pos rfl]

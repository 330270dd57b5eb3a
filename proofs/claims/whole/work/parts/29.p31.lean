/-! pure: sets, takes -/
theorem b4_bit (f : Nat → Bool) {v : Nat} (hv : v < 4) : b4 f / 2 ^ v % 2 = if f v then 1 else 0 := by
  unfold b4
  rcases four hv with rfl | rfl | rfl | rfl <;> cases f 0 <;> cases f 1 <;> cases f 2 <;> cases f 3 <;> decide
theorem fac : ∀ v, v < 4 → i_rem (nI v + 2) 4 = nI ((v + 2) % 4) := by decide +kernel
theorem sid_half {w h i v : Nat} (hi : i < w * h) (hv : v < 4) (he : edge w h i v = false) : sid w i v / 2 < w * h ∧ edge w h (sid w i v / 2) (if sid w i v % 2 = 0 then 1 else 2) = false := by
  obtain ⟨n1, n2, n3⟩ := edge_nbr hi hv he
  rcases four hv with rfl | rfl | rfl | rfl
  · have a : sid w i 0 = 2 * (i - w) + 1 := rfl
    rw [a, show (2 * (i - w) + 1) / 2 = nbr w i 0 by show _ = i - w; omega, if_neg (by omega)]
    exact ⟨n3, n1⟩
  · have a : sid w i 1 = 2 * i := rfl
    rw [a, show 2 * i / 2 = i by omega, if_pos (by omega)]
    exact ⟨hi, he⟩
  · have a : sid w i 2 = 2 * i + 1 := rfl
    rw [a, show (2 * i + 1) / 2 = i by omega, if_neg (by omega)]
    exact ⟨hi, he⟩
  · have a : sid w i 3 = 2 * (i - 1) := rfl
    rw [a, show 2 * (i - 1) / 2 = nbr w i 3 by show _ = i - 1; omega, if_pos (by omega)]
    exact ⟨n3, n1⟩
section
variable {σ τ σ' τ' : St} {w h gn kn kE kS tl sn d t1 t2 n B : Nat} {gr sz wo fo tx sk sf st hg li pb : Nat → Nat} {g g' : Gr} {P P' : Nat → Gr} {sh : Nat → Nat → Bool}
theorem pcnt_le (pb : Nat → Nat) : ∀ n, pcnt pb n ≤ n
  | 0 => Nat.le_refl _
  | n + 1 => by have := pcnt_le pb n; unfold pcnt; split <;> omega
theorem s_turn (b : BS σ w h) (s : SGg σ w h g) (hp : ∀ j, g 5 j < 4) (h30 : w * h ≤ 30) {i v : Nat} (hi : i < w * h) (hv : v < 4) (he : edge w h i v = false) : ∃ σ', mX3_turnPlank (nI i) (nI v) σ = some (0, σ') ∧ SGg σ' w h (gup g 5 (tog (g 5) (sid w i v))) ∧ ∀ a j, ¬ (a = 26 ∧ j = 0) → a ≠ 28 → σ' a j = σ a j := by
  obtain ⟨n1, n2, n3⟩ := edge_nbr hi hv he
  have pi := (s.2 i hi).2.1
  have pn := (s.2 _ n3).2.1
  have hb := b i hi v hv
  rw [he, if_neg Bool.false_ne_true] at hb
  have s60 := sid_lt (v := v) hi h30
  have T := pcnt_tog hp (sid w i v) 60
  rw [if_pos s60, if_pos s60] at T
  have W := pway_tog hp hi hv he
  have bit : pway w h (tog (g 5) (sid w i v)) i 4 / 2 ^ v % 2 = if plk (g 5) (sid w i v) then 0 else 1 := by
    rw [pway_B4, B4_bit _ hv]
    unfold pf
    rw [plk_tog hp, if_pos rfl, he]
    cases plk (g 5) (sid w i v) <;> rfl
  have bl : pway w h (tog (g 5) (sid w i v)) i 4 < 16 := by rw [pway_B4]; exact B4_lt _
  have Wi := W i
  rw [if_pos rfl] at Wi
  have Wn := W (nbr w i v)
  rw [if_neg n2, if_pos rfl] at Wn
  obtain ⟨σ1, hσ1⟩ : ∃ σ1, σ1 = s_up (s_up σ 28 i (nI (pway w h (tog (g 5) (sid w i v)) i 4))) 28 (nbr w i v) (nI (pway w h (tog (g 5) (sid w i v)) (nbr w i v) 4)) := ⟨_, rfl⟩
  have f1 : ∀ a j, a ≠ 28 → σ1 a j = σ a j := fun a j ha => by rw [hσ1, su_o (by omega), su_o (by omega)]
  have g28 : ∀ j, j < w * h → σ1 28 j = nI (pway w h (tog (g 5) (sid w i v)) j 4) := by
    intro j hj
    by_cases c : j = nbr w i v
    · subst c; rw [hσ1, su_s]
    · by_cases c2 : j = i
      · subst c2; rw [hσ1, su_o (by omega), su_s]
      · rw [hσ1, su_o (by omega), su_o (by omega), W j, if_neg c2, if_neg c]; exact (s.2 j hj).2.1
  have fin : ∀ u : Int32, u = nI (pcnt (tog (g 5) (sid w i v)) 60) → SGg (s_up σ1 26 0 u) w h (gup g 5 (tog (g 5) (sid w i v))) := by
    intro u hu
    refine ⟨by rw [su_s]; exact hu, fun j hj => ?_⟩
    obtain ⟨r1, r2, r3, r4, r5, r6⟩ := s.2 j hj
    rw [su_o (by omega), su_o (by omega), su_o (by omega), su_o (by omega), su_o (by omega), su_o (by omega), f1 27 j (by omega), f1 29 j (by omega), f1 30 j (by omega), f1 31 j (by omega), f1 32 j (by omega)]
    exact ⟨r1, g28 j hj, r3, r4, r5, r6⟩
  have e0 : σ1 26 0 = nI (pcnt (g 5) 60) := by rw [f1 26 0 (by omega)]; exact s.1
  have st : mX3_turnPlank (nI i) (nI v) σ = if (i_shr (σ1 28 i) (nI v) &&& 1) = 0 then some (0, s_up σ1 26 0 (σ1 26 0 + (-1))) else some (0, s_up σ1 26 0 (σ1 26 0 + 1)) := by
    unfold mX3_turnPlank mX2_besideOf mX2_facing
    have G : ∀ {α : Type} (o : Option α), gd (ib (nI i) 30) o = o := fun o => gd_t (ib_nI (show i < 30 by omega) (by decide)) o
    have G2 : ∀ {α : Type} (o : Option α), gd (ib (nI (nbr w i v)) 30) o = o := fun o => gd_t (ib_nI (show nbr w i v < 30 by omega) (by decide)) o
    rw [li4, pk_mul, nI_add, gd_t (ib_nI (by omega) (by decide)), bd_t, nx_nI (by omega), show (10 + 4 : Nat) = 14 from rfl, hb, if_neg (nI_m1 (by omega)), G, G, ← li4]
    simp only [nx_nI (show i < 2 ^ 31 by omega), nx_nI (show nbr w i v < 2 ^ 31 by omega), G, G2, lt_t, bd_t, fac v hv, pi]
    rw [shl1_nI (by omega), shl1_nI (by omega), xor_nI, su_o (σ := σ) (by omega), pn, xor_nI, ← Wi, ← Wn, ← hσ1]
  rw [st, g28 i hi, bit_nI (by omega) (by omega), bit, e0]
  cases hq : plk (g 5) (sid w i v) with
  | true =>
    rw [hq, if_pos rfl, if_pos rfl] at T
    refine ⟨s_up σ1 26 0 (nI (pcnt (g 5) 60) + (-1)), ?_, fin _ ?_, fun a j h1 h2 => by rw [su_o (by omega), f1 a j h2]⟩
    · rw [if_pos rfl, if_pos (show nI 0 = 0 from rfl)]
    · rw [show pcnt (g 5) 60 = pcnt (tog (g 5) (sid w i v)) 60 + 1 by omega, pred_nI]
  | false =>
    rw [hq, if_neg Bool.false_ne_true, if_neg Bool.false_ne_true] at T
    refine ⟨s_up σ1 26 0 (nI (pcnt (g 5) 60) + 1), ?_, fin _ ?_, fun a j h1 h2 => by rw [su_o (by omega), f1 a j h2]⟩
    · rw [if_neg Bool.false_ne_true, if_neg (show ¬ nI 1 = 0 by decide)]
    · rw [li1, nI_add]; congr 1; omega
theorem m_setPlank {D s : Nat} {Q : Nat → Gr} (mb : MB τ 0 g D Q) (hD : D ≤ 10) (hs : s < 60) (hl : ∀ j, j < 30 → g 1 j < 1048576) : ∃ τ', mX12_setPlank (nI s) τ = some (0, τ') ∧ MB τ' 0 (gup g 5 (tog (g 5) s)) D Q ∧ ∀ a j, ¬ (a = 1 ∧ 1 ≤ j ∧ j < 153) → τ' a j = τ a j := by
  have b2 := (mb.2.1 (s / 2) (by omega)).2.1
  rw [show 0 + 1 + 30 + s / 2 = 31 + s / 2 by omega] at b2
  refine ⟨s_up τ 1 (31 + s / 2) (nI (g 1 (s / 2) + 1048576 * (g 5 (s / 2) ^^^ 2 ^ (s % 2)))), ?_, mb.pres hD (fun j hj => su_o (by omega)) (fun j hj => ?_), fun a j h1 => su_o (by omega)⟩
  · unfold mX12_setPlank
    rw [li2, div_nI (by omega) (by omega) (by omega), rem_nI (by omega) (by omega) (by omega), show (31 : Int32) = nI 31 from rfl, nI_add, gd_t (ib_nI (by omega) (by decide)), gd_t (ib_nI (by omega) (by decide)), nx_nI (by omega), b2, show (20 : Int32) = nI 20 from rfl, nI_add, shl1_nI (by omega), xor_nI, xor20 (hl _ (by omega)), lt_t]
  · obtain ⟨r1, r2, r3, r4, r5⟩ := mb.2.1 j hj
    refine ⟨by rw [su_o (by omega)]; exact r1, ?_, by rw [su_o (by omega)]; exact r3, by rw [su_o (by omega)]; exact r4, by rw [su_o (by omega)]; exact r5⟩
    show _ = nI (g 1 j + 1048576 * tog (g 5) s j)
    unfold tog
    by_cases c : j = s / 2
    · rw [if_pos c, c, show 1 + 30 + s / 2 = 31 + s / 2 by omega, su_s]
    · rw [if_neg c, su_o (by omega)]; exact r2
theorem GV.tog' (V : GV w h kE kS g) (h30 : w * h ≤ 30) {i v : Nat} (hi : i < w * h) (hv : v < 4) (he : edge w h i v = false) (hk : plk (g 5) (sid w i v) = false → kerb kE kS (sid w i v) = false ∧ pcnt (g 5) 60 < 8) : GV w h kE kS (gup g 5 (tog (g 5) (sid w i v))) := by
  obtain ⟨v1, v2, v3, v4, v5⟩ := V
  have s60 := sid_lt (v := v) hi h30
  have T := pcnt_tog v2 (sid w i v) 60
  rw [if_pos s60, if_pos s60] at T
  refine ⟨v1, fun j => tog_lt v2 _ j, fun s hs => ?_, ?_, v5⟩
  · have hs' : plk (tog (g 5) (sid w i v)) s = true := hs
    rw [plk_tog v2] at hs'
    by_cases c : s = sid w i v
    · rw [if_pos c, c] at hs'
      have hq : plk (g 5) (sid w i v) = false := by simpa using hs'
      obtain ⟨u1, u2⟩ := sid_half hi hv he
      rw [c]
      exact ⟨s60, u1, u2, (hk hq).1⟩
    · rw [if_neg c] at hs'
      exact v3 s hs'
  · show pcnt (tog (g 5) (sid w i v)) 60 ≤ 8
    cases hq : plk (g 5) (sid w i v) with
    | true => rw [hq, if_pos rfl, if_pos rfl] at T; omega
    | false => rw [hq, if_neg Bool.false_ne_true, if_neg Bool.false_ne_true] at T; have := (hk hq).2; omega
theorem chg (cv : CV w h gn kn kE kS gr sz wo fo tl tx sn sk sf st) (im : IM τ w h gn kn kE kS gr sz wo fo tl tx sn sk sf st) (is : IS σ w h gn kn kE kS gr sz wo fo tl tx sn sk sf st) (ig : IG σ τ 26 0 w h kE kS g d P) (img : IMG σ τ w h kE kS) (c1 : σ 0 100 = τ 0 100) (c2 : σ 0 101 = τ 0 101) {i v : Nat} (hi : i < w * h) (hv : v < 4) (he : edge w h i v = false) (hk : plk (g 5) (sid w i v) = false → kerb kE kS (sid w i v) = false ∧ pcnt (g 5) 60 < 8) : ∃ r σ' τ', mX3_changePlank (nI i) (nI v) σ = some (r, σ') ∧ (bd (mX12_keepPast τ) fun _ s17 => bd (mX12_sideOf (nI i) (nI v) s17) fun r19 s20 => bd (mX12_setPlank r19 s20) fun _ s23 => bd (mX12_planksNow s23) fun r25 s26 => some (r25, s26)) = some (r, τ') ∧ Inv σ' τ' := by
  have X := SX.of cv is ig.1 ig.2.2.1
  have h30 := X.1.1
  have V := ig.2.2.1
  obtain ⟨sg, sd⟩ := ig.1.split
  obtain ⟨τ1, k1, k2, k3, k4⟩ := m_keepPast ig.2.1 ig.2.2.2.1
  have im1 := im.fr2 (τ' := τ1) (fun p q h1 _ _ => k4 p q h1)
  have Y1 := MX.of cv im1 k2 V
  have hn := (nd_le ig.2.2.2.1).2
  obtain ⟨τ2, m1, m2, m3⟩ := m_setPlank k2 hn (sid_lt (v := v) hi h30) (fun j hj => by have := (V.le hj).1; omega)
  have V' := V.tog' h30 hi hv he hk
  obtain ⟨σ1, s1, s2, s3⟩ := s_turn (BS.of is) sg V.2.1 h30 hi hv he
  have u : UND w h 2 i (nI v) 0 (gup g 5 (tog (g 5) (sid w i v))) g := ⟨hi, Or.inr (Or.inr (Or.inl ⟨rfl, ⟨v, hv, rfl, he, fun j => rfl⟩, fun _ => rfl, fun _ => rfl, fun _ => rfl, fun _ => rfl, fun _ => rfl⟩))⟩
  obtain ⟨σ2, n1, n2, n3⟩ := (sd.fr (σ' := σ1) (fun p q hpq => s3 p q (by omega) (by omega))).note ig.2.2.2.1 u
  have n1' : mX3_note 2 (nI i) (nI v) 0 σ1 = some (0, σ2) := n1
  refine ⟨nI (pcnt (tog (g 5) (sid w i v)) 60), σ2, τ2, ?_, ?_, ?_⟩
  · unfold mX3_changePlank
    rw [s1, bd_t, n1', bd_t, n3 26 0 (by omega) (by omega), s2.1]
    rfl
  · rw [k1, bd_t, m_sideOf (Y1.1 (pos_of hi)).1 hi hv he, bd_t, m1, bd_t, m_planksNow (MP.of m2 V'), bd_t]
    rfl
  · exact Inv.nw cv im is img c1 c2 (fun p q hpq => by rw [n3 p q (by omega) (by omega), s3 p q (by omega) (by omega)]) (fun p q h1 h2 => by rw [m3 p q (by omega), k4 p q h1]) (fun q hq => by rw [m3 1 q (by omega), k3 q hq]) ⟨SGo.join (s2.fr (fun p q hpq => n3 p q (by omega) (by omega))) n2, m2, V', hn, GV.past V ig.2.2.2.2 ig.2.2.2.1⟩
end
theorem way_or (b : Int32) : (∃ v, v < 4 ∧ b = nI v) ∨ ¬ ∃ v, v < 4 ∧ b = nI v := Classical.em _
theorem s_isWay_t {σ : St} {v : Nat} (hv : v < 4) : mX11_isWay (nI v) σ = some (1, σ) := by
  unfold mX11_isWay
  rw [if_neg (nI_pos (by omega)), if_pos (show nI v < 4 from nI_lt (b := 4) hv (by decide))]
theorem s_isWay_f {σ : St} {b : Int32} (h : ¬ ∃ v, v < 4 ∧ b = nI v) : mX11_isWay b σ = some (0, σ) := by
  unfold mX11_isWay
  rcases lt_or (w := 4) (by decide) h with q | q
  · rw [if_pos q]
  · rw [if_neg (show ¬ b < 4 from q)]; split <;> rfl
theorem m_in3_t {τ : St} {v : Nat} (hv : v < 4) : mX12_in (nI v).toInt64 0 3 τ = some (1, τ) := by
  rw [m_in3, decide_eq_true (show ¬ nI v < 0 ∧ ¬ 3 < nI v from (nlt_pred (x := nI v) (w := 4) (by decide)).mpr ⟨v, hv, rfl⟩)]
  rfl
theorem m_in3_f {τ : St} {b : Int32} (h : ¬ ∃ v, v < 4 ∧ b = nI v) : mX12_in b.toInt64 0 3 τ = some (0, τ) := by
  rw [m_in3, decide_eq_false (show ¬ (¬ b < 0 ∧ ¬ 3 < b) from fun q => h ((nlt_pred (x := b) (w := 4) (by decide)).mp q))]
  rfl
theorem sm_sets : Sm3 Inv mX11_sets mX12_sets := by
  intro x y b σ τ I
  have I0 := I
  obtain ⟨w, h, gn, kn, kE, kS, gr, sz, wo, fo, tl, tx, sn, sk, sf, st, g, d, P, cv, im, is, ig, img, t1, t2⟩ := I
  have X := SX.of cv is ig.1 ig.2.2.1
  have Y := MX.of cv im ig.2.1 ig.2.2.1
  have h30 := X.1.1
  unfold mX11_sets mX12_sets
  rcases CE.or w h x y with ⟨i, ci⟩ | ci
  · have hi := ci.lt
    rw [CE.s X ci, bd_t, CE.m Y ci, bd_t, if_neg n10, if_neg (nI_m1 (by omega))]
    rcases way_or b with ⟨v, hv, rfl⟩ | cb
    · have bl : b4 (shutA w h kE kS (g 5) 99 99 i) < 2 ^ 30 := b4_lt _
      rw [s_isWay_t hv, bd_t, if_neg n10, m_in3_t hv, bd_t, if_neg n10, CE.mb Y ci, bd_t, s_shutWays X hi, bd_t, (Y.1 (pos_of hi)).R.2.1 i v hi hv, bd_t, bit_nI (by omega) (by omega), b4_bit _ hv]
      cases hq : shutA w h kE kS (g 5) 99 99 i v with
      | true =>
        rw [if_pos rfl, if_neg (show ¬ nI 1 = 0 by decide), z1_t, if_neg n10]
        exact ⟨_, σ, τ, rfl, rfl, I0⟩
      | false =>
        rw [shutA_99 hi h30] at hq
        have he : edge w h i v = false := by cases q : edge w h i v with
          | true => rw [q] at hq; cases hq
          | false => rfl
        have hke : kerb kE kS (sid w i v) = false := by cases q : kerb kE kS (sid w i v) with
          | true => rw [he, q] at hq; cases hq
          | false => rfl
        rw [if_neg Bool.false_ne_true, if_pos (show nI 0 = 0 from rfl), z1_f, if_pos rfl, m_planksNow (MP.of ig.2.1 ig.2.2.1), bd_t, ig.1.1]
        have p8 : pcnt (g 5) 60 ≤ 8 := ig.2.2.1.2.2.2.1
        by_cases c8 : pcnt (g 5) 60 = 8
        · rw [c8, if_neg (show ¬ nI 8 < 8 by decide), if_pos (show nI 8 = 8 from rfl)]
          exact ⟨_, σ, τ, rfl, rfl, I0⟩
        · rw [if_pos (show nI (pcnt (g 5) 60) < 8 from nI_lt (b := 8) (by omega) (by decide)), if_neg (show ¬ nI (pcnt (g 5) 60) = 8 by rw [show (8 : Int32) = nI 8 from rfl, nI_inj (by omega) (by decide)]; exact c8)]
          obtain ⟨r, σ2, τ2, e1, e2, J⟩ := chg cv im is ig img t1 t2 hi hv he (fun _ => ⟨hke, by omega⟩)
          exact ⟨r, σ2, τ2, by rw [e1, bd_t], e2, J⟩
    · rw [s_isWay_f cb, bd_t, if_pos rfl, m_in3_f cb, bd_t, if_pos rfl]
      exact ⟨_, σ, τ, rfl, rfl, I0⟩
  · rw [CE.s0 X ci, bd_t, if_pos rfl, CE.mn Y ci, bd_t, if_pos rfl]
    exact ⟨_, σ, τ, rfl, rfl, I0⟩
theorem sm_takes : Sm3 Inv mX11_takes mX12_takes := by
  intro x y b σ τ I
  have I0 := I
  obtain ⟨w, h, gn, kn, kE, kS, gr, sz, wo, fo, tl, tx, sn, sk, sf, st, g, d, P, cv, im, is, ig, img, t1, t2⟩ := I
  have X := SX.of cv is ig.1 ig.2.2.1
  have Y := MX.of cv im ig.2.1 ig.2.2.1
  have h30 := X.1.1
  unfold mX11_takes mX12_takes
  rcases CE.or w h x y with ⟨i, ci⟩ | ci
  · have hi := ci.lt
    rw [CE.s X ci, bd_t, CE.m Y ci, bd_t, if_neg n10, if_neg (nI_m1 (by omega))]
    rcases way_or b with ⟨v, hv, rfl⟩ | cb
    · have p28 := (ig.1.split.1.2 i hi).2.1
      have bl : pway w h (g 5) i 4 < 16 := by rw [pway_B4]; exact B4_lt _
      have MCY := (Y.1 (pos_of hi)).1
      rw [s_isWay_t hv, bd_t, if_neg n10, m_in3_t hv, bd_t, if_neg n10, CE.mb Y ci, bd_t, m_edge MCY hi hv, bd_t, gd_t (ib_nI (by omega) (by decide))]
      simp only [nx_nI (show i < 2 ^ 31 by omega), p28, bit_nI (show pway w h (g 5) i 4 < 2 ^ 31 by omega) (show v < 32 by omega)]
      simp only [pway_B4, B4_bit _ hv]
      cases he : edge w h i v with
      | true =>
        have : pf w h (g 5) i v = false := by unfold pf; rw [he]; rfl
        rw [this, if_neg Bool.false_ne_true, if_pos (show nI 0 = 0 from rfl), z1_t, if_neg n10]
        exact ⟨_, σ, τ, rfl, rfl, I0⟩
      | false =>
        have hpf : pf w h (g 5) i v = plk (g 5) (sid w i v) := by unfold pf; rw [he]; rfl
        rw [hpf, z1_f, if_pos rfl, m_sideOf MCY hi hv he, bd_t, m_isPlank (MP.of ig.2.1 ig.2.2.1) (sid_lt hi h30), bd_t]
        cases hq : plk (g 5) (sid w i v) with
        | false =>
          rw [if_neg Bool.false_ne_true, if_pos (show nI 0 = 0 from rfl), z1_f, if_pos rfl]
          exact ⟨_, σ, τ, rfl, rfl, I0⟩
        | true =>
          rw [if_pos rfl, if_neg (show ¬ nI 1 = 0 by decide), z1_t, if_neg n10]
          obtain ⟨r, σ2, τ2, e1, e2, J⟩ := chg cv im is ig img t1 t2 hi hv he (fun q => by rw [hq] at q; cases q)
          exact ⟨r, σ2, τ2, by rw [e1, bd_t], e2, J⟩
    · rw [s_isWay_f cb, bd_t, if_pos rfl, m_in3_f cb, bd_t, if_pos rfl]
      exact ⟨_, σ, τ, rfl, rfl, I0⟩
  · rw [CE.s0 X ci, bd_t, if_pos rfl, CE.mn Y ci, bd_t, if_pos rfl]
    exact ⟨_, σ, τ, rfl, rfl, I0⟩

/-! pure: cobble, sweep -/
def gup (g : Gr) (r : Nat) (f : Nat → Nat) : Gr := fun q i => if q = r then f i else g q i
theorem sumN_le {f f' : Nat → Nat} (h : ∀ j, f j ≤ f' j) : ∀ n, sumN f n ≤ sumN f' n
  | 0 => Nat.le_refl _
  | n + 1 => by have := sumN_le h n; have := h n; show sumN f n + f n ≤ sumN f' n + f' n; omega
theorem sm_cobble : Sm3 Inv mX11_cobble mX12_cobble := by
  intro x y b σ τ I
  have I0 := I
  obtain ⟨w, h, gn, kn, kE, kS, gr, sz, wo, fo, tl, tx, sn, sk, sf, st, g, d, P, cv, im, is, ig, img, t1, t2⟩ := I
  have X := SX.of cv is ig.1 ig.2.2.1
  have Y := MX.of cv im ig.2.1 ig.2.2.1
  have h30 := X.1.1
  unfold mX11_cobble mX12_cobble
  rcases CE.or w h x y with ⟨i, ci⟩ | ci
  · have hi := ci.lt
    rw [CE.s X ci, bd_t, CE.m Y ci, bd_t, if_neg n10, if_neg (nI_m1 (by omega)), m_in1, bd_t]
    by_cases cb : ¬ b < 0 ∧ ¬ 1 < b
    · rw [decide_eq_true cb, z1_t, if_neg n10, CE.mb Y ci, bd_t]
      obtain ⟨v, hv, rfl⟩ : ∃ v, v < 2 ∧ b = nI v := by
        rcases wh2.mp cb with q | q
        · exact ⟨0, by decide, q⟩
        · exact ⟨1, by decide, q⟩
      have eS : ∀ u : Option (Int32 × St), (if nI v = 0 then mX11_cobble_28 (nI v) (nI i) σ else if nI v = 1 then mX11_cobble_28 (nI v) (nI i) σ else u) = mX11_cobble_38 (nI i) (dv v) σ := by
        intro u
        rcases (show v = 0 ∨ v = 1 by omega) with rfl | rfl <;> rfl
      obtain ⟨y1, y2⟩ := Y.hh hi
      obtain ⟨x1, -⟩ := X.hh hi
      obtain ⟨a1, a2⟩ := nh_s v hv (g 0 i) (by omega)
      have u1 : (1 : Int32) + nI i = nI (1 + i) := by rw [li1, nI_add]
      have G : ∀ {α : Type} (o : Option α), gd (ib (nI i) 30) o = o := fun o => gd_t (ib_nI (show i < 30 by omega) (by decide)) o
      have eM : ∀ w1 : Int32, (if nI v = 1 then mX12_cobble_48 (nI i) 1 w1 τ else mX12_cobble_48 (nI i) (-1) w1 τ) = mX12_cobble_48 (nI i) (dv v) w1 τ := by
        intro w1
        rcases (show v = 0 ∨ v = 1 by omega) with rfl | rfl <;> rfl
      rw [eS, u1, gd_t (ib_nI (by omega) (by decide)), eM, nx_nI (by omega), y1]
      unfold mX11_cobble_38 mX12_cobble_48
      rw [G, nx_nI (by omega), x1, lt_t, m_in9, bd_t]
      by_cases c : nh (g 0 i) v = 10
      · have nn : ¬ (¬ nI (g 0 i) + dv v < 0 ∧ ¬ 9 < nI (g 0 i) + dv v) := fun q => (a1 c).elim q.1 q.2
        have Hf : mX11_isHeight (nI (g 0 i) + dv v) σ = some (0, σ) := by
          unfold mX11_isHeight
          by_cases q : nI (g 0 i) + dv v < 0
          · rw [if_pos q]
          · rw [if_neg q, if_pos ((a1 c).resolve_left q)]
        rw [Hf, bd_t, if_pos rfl, decide_eq_false nn, z1_f, if_pos rfl]
        exact ⟨_, σ, τ, rfl, rfl, I0⟩
      · obtain ⟨b1, b2⟩ := a2 c
        have l := nh_le y2 c
        have Ht : mX11_isHeight (nI (nh (g 0 i) v)) σ = some (1, σ) := by
          unfold mX11_isHeight
          rw [if_neg (nI_pos (by omega)), if_neg (show ¬ 9 < nI (nh (g 0 i) v) from nI_nlt (a := 9) (by omega) (by omega))]
        have yy : ¬ nI (nh (g 0 i) v) < 0 ∧ ¬ 9 < nI (nh (g 0 i) v) := ⟨nI_pos (by omega), nI_nlt (a := 9) (by omega) (by omega)⟩
        obtain ⟨τ1, k1, k2, k3, k4⟩ := m_keepPast ig.2.1 ig.2.2.2.1
        obtain ⟨z, hz⟩ : ∃ z, z = nh (g 0 i) v := ⟨_, rfl⟩
        rw [← hz] at b1 b2 l Ht yy
        have hzv : (v = 1 ∧ z = g 0 i + 1) ∨ (v = 0 ∧ z + 1 = g 0 i) := by
          rw [← hz] at c
          unfold nh at hz
          rcases (show v = 0 ∨ v = 1 by omega) with q | q
          · subst q
            rw [if_pos rfl] at hz
            split at hz <;> omega
          · subst q
            rw [if_neg (by decide)] at hz
            split at hz <;> omega
        have u : UND w h 3 i (dv v) 0 (gup g 0 (hput (g 0) i z)) g := by
          refine ⟨hi, Or.inr (Or.inr (Or.inr (Or.inl ⟨rfl, ?_, fun j => rfl, fun j => rfl, fun j => rfl, fun j => rfl, fun j => rfl⟩)))⟩
          rcases hzv with ⟨rfl, q⟩ | ⟨rfl, q⟩
          · refine Or.inl ⟨rfl, fun j => ?_⟩
            show hput (g 0) i z j = _
            unfold hput
            by_cases cj : j = i
            · rw [if_pos cj, if_pos cj, cj]; omega
            · rw [if_neg cj, if_neg cj]; rfl
          · refine Or.inr ⟨rfl, fun j => ?_⟩
            show _ = hput (g 0) i z j + _
            unfold hput
            by_cases cj : j = i
            · rw [if_pos cj, if_pos cj, cj]; omega
            · rw [if_neg cj, if_neg cj]; rfl
        obtain ⟨sg, sd⟩ := ig.1.split
        obtain ⟨σ2, n1, n2, n3⟩ := (sd.fr (σ' := s_up σ 27 i (nI z)) (fun p q hpq => su_o (by omega))).note ig.2.2.2.1 u
        have V' : GV w h kE kS (gup g 0 (hput (g 0) i z)) := by
          obtain ⟨v1, v2⟩ := ig.2.2.1
          refine ⟨fun j hj => ?_, v2⟩
          show hput (g 0) i z j ≤ 9
          unfold hput
          split
          · exact l
          · exact v1 j hj
        rw [b1, Ht, bd_t, if_neg n10, decide_eq_true yy, z1_t, if_neg n10, k1, bd_t, u1, gd_t (ib_nI (by omega) (by decide)), nx_nI (by omega), lt_t]
        unfold mX3_moveCobble
        rw [G, G]
        simp only [nx_nI (show i < 2 ^ 31 by omega)]
        have n1' : mX3_note 3 (nI i) (dv v) 0 (s_up σ 27 i (nI z)) = some (0, σ2) := n1
        rw [x1, b1, lt_t, n1', bd_t, G, n3 27 i (by omega) (by omega), su_s, bd_t]
        refine ⟨_, σ2, s_up τ1 1 (1 + i) (nI z), rfl, rfl, ?_⟩
        refine Inv.nw cv im is img t1 t2 (fun p q hpq => by rw [n3 p q (by omega) (by omega), su_o (by omega)]) (fun p q h1 h2 => by rw [su_o (by omega), k4 p q h1]) (fun q hq => by rw [su_o (by omega), k3 q hq]) (g' := gup g 0 (hput (g 0) i z)) ⟨SGo.join ⟨?_, fun j hj => ?_⟩ n2, k2.pres (nd_le ig.2.2.2.1).2 (fun j hj => su_o (by omega)) (fun j hj => ?_), V', (nd_le ig.2.2.2.1).2, GV.past ig.2.2.1 ig.2.2.2.2 ig.2.2.2.1⟩
        · rw [n3 26 0 (by omega) (by omega), su_o (by omega)]; exact sg.1
        · obtain ⟨s1, s2, s3, s4, s5, s6⟩ := sg.2 j hj
          rw [n3 27 j (by omega) (by omega), n3 28 j (by omega) (by omega), n3 29 j (by omega) (by omega), n3 30 j (by omega) (by omega), n3 31 j (by omega) (by omega), n3 32 j (by omega) (by omega)]
          refine ⟨?_, by rw [su_o (by omega)]; exact s2, by rw [su_o (by omega)]; exact s3, by rw [su_o (by omega)]; exact s4, by rw [su_o (by omega)]; exact s5, by rw [su_o (by omega)]; exact s6⟩
          show _ = nI (hput (g 0) i z j)
          unfold hput
          by_cases cj : j = i
          · rw [cj, su_s, if_pos rfl]
          · rw [su_o (by omega), if_neg cj]; exact s1
        · obtain ⟨p1, p2, p3, p4, p5⟩ := k2.2.1 j hj
          refine ⟨?_, by rw [su_o (by omega)]; exact p2, by rw [su_o (by omega)]; exact p3, by rw [su_o (by omega)]; exact p4, by rw [su_o (by omega)]; exact p5⟩
          show _ = nI (hput (g 0) i z j)
          unfold hput
          by_cases cj : j = i
          · rw [cj, su_s, if_pos rfl]
          · rw [su_o (by omega), if_neg cj]; exact p1
    · rw [decide_eq_false cb, z1_f, if_pos rfl, if_neg (fun q => cb (wh2.mpr (Or.inl q))), if_neg (fun q => cb (wh2.mpr (Or.inr q)))]
      exact ⟨_, σ, τ, rfl, rfl, I0⟩
  · rw [CE.s0 X ci, bd_t, if_pos rfl, CE.mn Y ci, bd_t, if_pos rfl]
    exact ⟨_, σ, τ, rfl, rfl, I0⟩
theorem neg_nI (a : Nat) : nI a + -nI a = nI 0 := by rw [← Int32.sub_eq_add_neg, sub_nI (Nat.le_refl a), Nat.sub_self]
theorem sm_sweep : Sm2 Inv mX11_sweep mX12_sweep := by
  intro x y σ τ I
  have I0 := I
  obtain ⟨w, h, gn, kn, kE, kS, gr, sz, wo, fo, tl, tx, sn, sk, sf, st, g, d, P, cv, im, is, ig, img, t1, t2⟩ := I
  have X := SX.of cv is ig.1 ig.2.2.1
  have Y := MX.of cv im ig.2.1 ig.2.2.1
  have h30 := X.1.1
  unfold mX11_sweep mX12_sweep
  rcases CE.or w h x y with ⟨i, ci⟩ | ci
  · have hi := ci.lt
    obtain ⟨sg, sd⟩ := ig.1.split
    obtain ⟨s1, s2, s3, s4, s5, s6⟩ := sg.2 i hi
    have G : ∀ {α : Type} (o : Option α), gd (ib (nI i) 30) o = o := fun o => gd_t (ib_nI (show i < 30 by omega) (by decide)) o
    have l1 := (ig.2.2.1.le (show i < 30 by omega)).1
    rw [CE.s X ci, bd_t, CE.m Y ci, bd_t, if_neg n10, if_neg (nI_m1 (by omega)), CE.mb Y ci, bd_t, m_liesOn Y hi, bd_t, G]
    simp only [nx_nI (show i < 2 ^ 31 by omega), s3]
    by_cases c : g 1 i = 0
    · rw [if_pos (by rw [c]; rfl), if_pos (by rw [c]; rfl)]
      exact ⟨_, σ, τ, rfl, rfl, I0⟩
    · rw [if_neg (nI_nz (by omega) (by omega)), if_neg (nI_nz (by omega) (by omega))]
      obtain ⟨τ1, k1, k2, k3, k4⟩ := m_keepPast ig.2.1 ig.2.2.2.1
      have Y1 := MX.of cv (im.fr2 (τ' := τ1) (fun p q h1 _ _ => k4 p q h1)) k2 ig.2.2.1
      obtain ⟨p1, p2, p3, p4, p5⟩ := k2.2.1 i (by omega)
      have u31 : (31 : Int32) + nI i = nI (31 + i) := by rw [show (31 : Int32) = nI 31 from rfl, nI_add]
      have u61 : (61 : Int32) + nI i = nI (61 + i) := by rw [show (61 : Int32) = nI 61 from rfl, nI_add]
      rw [show 0 + 1 + 30 + i = 31 + i by omega] at p2
      rw [show 0 + 1 + 60 + i = 61 + i by omega] at p3
      have u : UND w h 4 i (nI (g 1 i)) (g 2 i) (gup (gup g 1 (fun j => if j = i then 0 else g 1 j)) 2 (fun j => if j = i then 0 else g 2 j)) g := by
        exact ⟨hi, Or.inr (Or.inr (Or.inr (Or.inr ⟨rfl, rfl, rfl, fun j => rfl, fun j => rfl, fun j => rfl, fun j => rfl, fun j => rfl, fun j => rfl⟩)))⟩
      obtain ⟨σ2, n1, n2, n3⟩ := sd.note ig.2.2.2.1 u
      have n29 : σ2 29 i = nI (g 1 i) := by rw [n3 29 i (by omega) (by omega)]; exact s3
      have n30 : s_up σ2 29 i (nI 0) 30 i = nI (g 2 i) := by rw [su_o (by omega), n3 30 i (by omega) (by omega)]; exact s4
      rw [k1, bd_t]
      simp only [u31, u61, gd_t (ib_nI (show 31 + i < 5019 by omega) (by decide)), gd_t (ib_nI (show 61 + i < 5019 by omega) (by decide)), nx_nI (show 31 + i < 2 ^ 31 by omega), nx_nI (show 61 + i < 2 ^ 31 by omega), p3, lt_t, m_liesOn Y1 hi, bd_t, p2]
      rw [sub_nI (by omega)]
      unfold mX3_sweepAway mX3_addCoins
      simp only [G, nx_nI (show i < 2 ^ 31 by omega), s3, s4, lt_t]
      rw [show (4 : Int32) = nI 4 from rfl, n1, bd_t, n29, if_neg (by decide), neg_nI, n30, neg_nI, bd_t, bd_t]
      refine ⟨_, _, _, rfl, rfl, ?_⟩
      have V' : GV w h kE kS (gup (gup g 1 (fun j => if j = i then 0 else g 1 j)) 2 (fun j => if j = i then 0 else g 2 j)) := by
        obtain ⟨v1, v2, v3, v4, v5, v6, v7⟩ := ig.2.2.1
        refine ⟨v1, v2, v3, v4, ?_, fun j hj => ?_, fun j hj => ?_⟩
        · have : sumN (fun j => if j = i then 0 else g 1 j) 30 ≤ sumN (g 1) 30 := sumN_le (fun j => by split <;> omega) 30
          show sumN (fun j => if j = i then 0 else g 1 j) 30 + sumN (g 3) 30 ≤ 999
          omega
        · show (if j = i then 0 else g 2 j) ≤ 99 * (if j = i then 0 else g 1 j) ∧ g 4 j ≤ 99 * g 3 j
          refine ⟨?_, (v6 j hj).2⟩
          have := (v6 j hj).1
          split <;> omega
        · show (if j = i then 0 else g 1 j) = 0 ∧ g 3 j = 0
          have := v7 j hj
          refine ⟨?_, this.2⟩
          split <;> omega
      refine Inv.nw cv im is img t1 t2 (fun p q hpq => by rw [su_o (by omega), su_o (by omega), n3 p q (by omega) (by omega)]) (fun p q h1 h2 => by rw [su_o (by omega), su_o (by omega), k4 p q h1]) (fun q hq => by rw [su_o (by omega), su_o (by omega), k3 q hq]) (g' := gup (gup g 1 (fun j => if j = i then 0 else g 1 j)) 2 (fun j => if j = i then 0 else g 2 j)) ⟨SGo.join ⟨?_, fun j hj => ?_⟩ (n2.fr (fun p q hpq => by rw [su_o (by omega), su_o (by omega)])), k2.pres (nd_le ig.2.2.2.1).2 (fun j hj => by rw [su_o (by omega), su_o (by omega)]) (fun j hj => ?_), V', (nd_le ig.2.2.2.1).2, GV.past ig.2.2.1 ig.2.2.2.2 ig.2.2.2.1⟩
      · rw [su_o (by omega), su_o (by omega), n3 26 0 (by omega) (by omega)]; exact sg.1
      · obtain ⟨r1, r2, r3, r4, r5, r6⟩ := sg.2 j hj
        refine ⟨by rw [su_o (by omega), su_o (by omega), n3 27 j (by omega) (by omega)]; exact r1, by rw [su_o (by omega), su_o (by omega), n3 28 j (by omega) (by omega)]; exact r2, ?_, ?_, by rw [su_o (by omega), su_o (by omega), n3 31 j (by omega) (by omega)]; exact r5, by rw [su_o (by omega), su_o (by omega), n3 32 j (by omega) (by omega)]; exact r6⟩
        · show _ = nI (if j = i then 0 else g 1 j)
          by_cases cj : j = i
          · rw [if_pos cj, cj, su_o (by omega), su_s]
          · rw [if_neg cj, su_o (by omega), su_o (by omega), n3 29 j (by omega) (by omega)]; exact r3
        · show _ = nI (if j = i then 0 else g 2 j)
          by_cases cj : j = i
          · rw [if_pos cj, cj, su_s]
          · rw [if_neg cj, su_o (by omega), su_o (by omega), n3 30 j (by omega) (by omega)]; exact r4
      · obtain ⟨r1, r2, r3, r4, r5⟩ := k2.2.1 j hj
        refine ⟨by rw [su_o (by omega), su_o (by omega)]; exact r1, ?_, ?_, by rw [su_o (by omega), su_o (by omega)]; exact r4, by rw [su_o (by omega), su_o (by omega)]; exact r5⟩
        · show _ = nI ((if j = i then 0 else g 1 j) + 1048576 * g 5 j)
          by_cases cj : j = i
          · rw [if_pos cj, cj, su_o (by omega), show 1 + 30 + i = 31 + i by omega, su_s]
            congr 1
            omega
          · rw [if_neg cj, su_o (by omega), su_o (by omega)]; exact r2
        · show _ = nI (if j = i then 0 else g 2 j)
          by_cases cj : j = i
          · rw [if_pos cj, cj, show 1 + 60 + i = 61 + i by omega, su_s]; rfl
          · rw [if_neg cj, su_o (by omega), su_o (by omega)]; exact r3
  · rw [CE.s0 X ci, bd_t, if_pos rfl, CE.mn Y ci, bd_t, if_pos rfl]
    exact ⟨_, σ, τ, rfl, rfl, I0⟩

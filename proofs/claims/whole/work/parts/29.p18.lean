/-! pure: paved -/
def hput (hg : Nat → Nat) (i x : Nat) : Nat → Nat := fun j => if j = i then x else hg j
section
variable {σ τ σ' τ' : St} {w h gn kn kE kS tl sn d t1 t2 n : Nat} {gr sz wo fo tx sk sf st hg li pb : Nat → Nat} {g : Gr} {P : Nat → Gr} {sh : Nat → Nat → Bool}
theorem SX.ht (X : SX σ w h sh hg gr kn sz fo) {i x : Nat} (hx : x ≤ 9) : SX (s_up σ 27 i (nI x)) w h sh (hput hg i x) gr kn sz fo := by
  obtain ⟨⟨r0, r1, r2, r3, r4, r5, r6⟩, x1, x2, x3, x4, x5, x6⟩ := X
  refine ⟨⟨r0, fun j hj => ?_, fun j v hj hv hv2 => ?_, fun j hj => ?_, fun j hj => ?_, ?_, r6⟩, ?_, ?_, x3, x4, ?_, fun k hk => ?_⟩
  · rw [su_o (by omega), su_o (by omega)]; exact r1 j hj
  · rw [su_o (by omega)]; exact r2 j v hj hv hv2
  · unfold hput
    by_cases c : j = i
    · subst c; simp only [if_pos]; exact ⟨su_s, hx⟩
    · simp only [if_neg c]; rw [su_o (by omega)]; exact r3 j hj
  · rw [su_o (by omega)]; exact r4 j hj
  · rw [su_o (by omega)]; exact r5
  · rw [su_o (by omega)]; exact x1
  · rw [su_o (by omega)]; exact x2
  · rw [su_o (by omega)]; exact x5
  · rw [su_o (by omega), su_o (by omega)]; exact x6 k hk
theorem MX.ht (Y : MX τ w h kE kS li pb t1 t2 hg gr kn sz fo) {i x : Nat} (hi : i < 30) (hx : x ≤ 9) : MX (s_up τ 1 (1 + i) (nI x)) w h kE kS li pb t1 t2 (hput hg i x) gr kn sz fo := by
  obtain ⟨r, x1, x2, x3, x4, x5, x6, x7⟩ := Y
  refine ⟨fun hw => ?_, by rw [su_o (by omega)]; exact x1, by rw [su_o (by omega)]; exact x2, x3, x4, x5, by rw [su_o (by omega)]; exact x6, fun k hk => ?_⟩
  · obtain ⟨⟨c1, c2, c3, c4, c5⟩, p, ⟨q1, q2, q3⟩, g1, g2⟩ := r hw
    refine ⟨⟨?_, ?_, ?_, ?_, c5⟩, fun j hj => ?_, ⟨?_, ?_, q3⟩, fun j hj => ?_, fun j hj => ?_⟩
    · rw [su_o (by omega)]; exact c1
    · rw [su_o (by omega)]; exact c2
    · rw [su_o (by omega)]; exact c3
    · rw [su_o (by omega)]; exact c4
    · rw [su_o (by omega)]; exact p j hj
    · rw [su_o (by omega)]; exact q1
    · rw [su_o (by omega)]; exact q2
    · unfold hput
      by_cases c : j = i
      · subst c; simp only [if_pos]; exact ⟨su_s, hx⟩
      · simp only [if_neg c]; rw [su_o (by omega)]; exact g1 j hj
    · rw [su_o (by omega)]; exact g2 j hj
  · rw [su_o (by omega), su_o (by omega)]; exact x7 k hk
theorem SQu.back {i : Nat} {v u : Int32} (q : SQu (s_up σ 27 i v) σ') (hu : σ 27 i = u) : SQu σ (s_up σ' 27 i u) := by
  intro a b h1 h2
  by_cases c : a = 27 ∧ b = i
  · obtain ⟨rfl, rfl⟩ := c; rw [su_s, hu]
  · rw [su_o (by omega), q a b h1 h2, su_o (by omega)]
theorem MQu.back {i : Nat} {v u : Int32} (q : MQu (s_up τ 1 i v) τ') (hu : τ 1 i = u) : MQu τ (s_up τ' 1 i u) := by
  intro a b h1
  by_cases c : a = 1 ∧ b = i
  · obtain ⟨rfl, rfl⟩ := c; rw [su_s, hu]
  · rw [su_o (by omega), q a b h1, su_o (by omega)]
theorem SX.hh (X : SX σ w h sh hg gr kn sz fo) {i : Nat} (hi : i < w * h) : σ 27 i = nI (hg i) ∧ hg i ≤ 9 := X.1.2.2.2.1 i hi
theorem MX.hh (Y : MX τ w h kE kS li pb t1 t2 hg gr kn sz fo) {i : Nat} (hi : i < w * h) : τ 1 (1 + i) = nI (hg i) ∧ hg i ≤ 9 := (Y.1 (pos_of hi)).2.2.2.1 i (by have := Y.n30; omega)
/-- from how many cells a coin comes to the door, without the cobble i -/
def pvC (sh : Nat → Nat → Bool) (hg gr : Nat → Nat) (w h size f0 dd i : Nat) : Nat := popc (orF (fun j => (rl sh (hput hg i (hg i - 1)) gr w size f0 j).1 == dd) 0 0 (w * h)) 30
def pvF (c hg : Nat → Nat) : Nat → Nat × Nat
  | 0 => (99, 99)
  | i + 1 => if 0 < hg i ∧ ((pvF c hg i).2 = 99 ∨ (pvF c hg i).2 < c i) then (i, c i) else pvF c hg i
theorem pvF_le {c hg : Nat → Nat} (hc : ∀ j, c j ≤ 30) : ∀ i, ((pvF c hg i).2 = 99 ∨ (pvF c hg i).2 ≤ 30) ∧ ((pvF c hg i).1 = 99 ∨ (pvF c hg i).1 < i)
  | 0 => by unfold pvF; omega
  | i + 1 => by
    have := pvF_le (hg := hg) hc i
    have := hc i
    unfold pvF
    split
    · simp; omega
    · omega
theorem tr_ltp {a b : Nat} (ha : a = 99 ∨ a ≤ 30) (hb : b ≤ 30) : (tr a < nI b) = (a = 99 ∨ a < b) := by
  rcases ha with q | q
  · subst q
    apply propext
    refine ⟨fun _ => Or.inl rfl, fun _ => ?_⟩
    show (-9 : Int32) < nI b
    rw [Int32.lt_iff_toInt_lt, nI_toInt (by omega)]
    have : (-9 : Int32).toInt = -9 := by decide
    omega
  · rw [tr_lt (by omega), nI_ltp (by omega) (by omega)]
    exact propext ⟨fun e => Or.inr e, fun e => e.elim (fun q => by omega) id⟩
theorem s_without (X : SX σ w h sh hg gr kn sz fo) {k dd i : Nat} (hk : k < kn) (hd : dd < 2 ^ 31) (hi : i < w * h) (hp : 0 < hg i) : ∃ σ', mX11_doorsWithout (nI k) (nI dd) (nI i) σ = some (nI (pvC sh hg gr w h (sz k) (fo k) dd i), σ') ∧ SQu σ σ' := by
  have h30 := X.1.1
  obtain ⟨y1, y2⟩ := X.hh hi
  have X1 := X.ht (i := i) (x := hg i - 1) (by omega)
  obtain ⟨σ1, e1, q1⟩ := s_doorBits X1 hk hd
  have L : orF (fun j => (rl sh (hput hg i (hg i - 1)) gr w (sz k) (fo k) j).1 == dd) 0 0 (w * h) < 2 ^ 30 := by
    refine Nat.lt_of_lt_of_le (orF_lt (w * h) 0 0 (Nat.pow_pos (by decide))) (Nat.pow_le_pow_right (by decide) (by omega))
  refine ⟨s_up σ1 27 i (nI (hg i)), ?_, q1.back y1⟩
  unfold mX11_doorsWithout
  rw [gd_t (ib_nI (by omega) (by decide)), gd_t (ib_nI (by omega) (by decide))]
  simp only [nx_nI (show i < 2 ^ 31 by omega), y1, li1]
  rw [sub_nI hp, lt_t, e1, bd_t, s_bitCount L, bd_t, gd_t (ib_nI (by omega) (by decide)), gd_t (ib_nI (by omega) (by decide)), q1 27 i (by decide) (by decide), su_s, nI_add, lt_t, Nat.sub_add_cancel hp]
  rfl
theorem s_paved_loop {kk : Int32 → Int32 → Int32 → St → Option (Int32 × St)} {v4 : Int32} {k dd : Nat} {c : Nat → Nat} (hk : k < kn) (hd : dd < 2 ^ 31) (hc : c = pvC sh hg gr w h (sz k) (fo k) dd) : ∀ (m N i : Nat) (σ : St), SX σ w h sh hg gr kn sz fo → i + m = w * h → ∃ σ', mX11_paved_48 kk (N + m + 1) (nI k) v4 (nI dd) (tr1 (pvF c hg i).1) (tr (pvF c hg i).2) (nI i) σ = kk v4 (tr1 (pvF c hg (w * h)).1) (tr (pvF c hg (w * h)).2) σ' ∧ SQu σ σ'
  | 0, N, i, σ, X, e => by
    have h30 := X.1.1
    refine ⟨σ, ?_, SQu.rfl' σ⟩
    rw [show N + 0 + 1 = N + 1 from rfl, mX11_paved_48, X.2.2.1, if_neg (nI_nlt (by omega) (by omega)), show i = w * h by omega]
  | m + 1, N, i, σ, X, e => by
    have h30 := X.1.1
    have hi : i < w * h := by omega
    obtain ⟨y1, y2⟩ := X.hh hi
    have hcl : ∀ j, c j ≤ 30 := fun j => by rw [hc]; exact popc_le _ 30
    have l := pvF_le (hg := hg) hcl i
    have ci := hcl i
    rw [show N + (m + 1) + 1 = (N + m + 1) + 1 from rfl, mX11_paved_48, X.2.2.1, if_pos (nI_lt (by omega) (by omega)), gd_t (ib_nI (by omega) (by decide)), nx_nI (by omega), y1]
    have R : pvF c hg (i + 1) = if 0 < hg i ∧ ((pvF c hg i).2 = 99 ∨ (pvF c hg i).2 < c i) then (i, c i) else pvF c hg i := rfl
    by_cases hp : 0 < hg i
    · obtain ⟨σ1, e1, q1⟩ := s_without X hk hd hi hp
      obtain ⟨σ2, e2, q2⟩ := s_paved_loop (kk := kk) (v4 := v4) hk hd hc m N (i + 1) σ1 (X.q q1) (by omega)
      rw [R] at e2
      refine ⟨σ2, ?_, q1.tr q2⟩
      rw [if_pos (show 0 < nI (hg i) from nI_lt (a := 0) hp (by omega)), e1, bd_t, ← hc]
      unfold mX11_paved_99
      simp only [lt_t, tr_ltp l.1 ci, li1, nI_add]
      by_cases q : (pvF c hg i).2 = 99 ∨ (pvF c hg i).2 < c i
      · rw [if_pos ⟨hp, q⟩, tr1_lt (t := i) (by omega), tr_lt (t := c i) (by omega)] at e2
        rw [if_pos q]; exact e2
      · rw [if_neg (fun z => q z.2)] at e2
        rw [if_neg q]; exact e2
    · obtain ⟨σ2, e2, q2⟩ := s_paved_loop (kk := kk) (v4 := v4) hk hd hc m N (i + 1) σ X (by omega)
      rw [R, if_neg (fun z => hp z.1)] at e2
      refine ⟨σ2, ?_, q2⟩
      rw [if_neg (show ¬ 0 < nI (hg i) from nI_nlt (a := 0) (by omega) (by omega)), mX11_paved_99, lt_t, li1, nI_add]
      exact e2
theorem m_paved_loop {kk : Int32 → Int32 → Int32 → St → Option (Int32 × St)} {v4 x y : Int32} {k dd : Nat} {c : Nat → Nat} (hk : k < kn) (hc : c = pvC (shutA w h kE kS pb t1 t2) hg gr w h (sz k) (fo k) dd) (ce : CE w h x y dd) : ∀ (m N i : Nat) (τ : St), MX τ w h kE kS li pb t1 t2 hg gr kn sz fo → i + m = w * h → ∃ τ', mX12_paved_41 kk (N + m + 1) (nI k) x y v4 (tr (pvF c hg i).1) (tr (pvF c hg i).2) (nI i) τ = kk v4 (tr (pvF c hg (w * h)).1) (tr (pvF c hg (w * h)).2) τ' ∧ MQu τ τ'
  | 0, N, i, τ, Y, e => by
    have h30 := Y.n30
    refine ⟨τ, ?_, MQu.rfl' τ⟩
    rw [show N + 0 + 1 = N + 1 from rfl, mX12_paved_41, m_cells Y, bd_t, if_neg (nI_nlt (by omega) (by omega)), show i = w * h by omega]
  | m + 1, N, i, τ, Y, e => by
    have h30 := Y.n30
    have hi : i < w * h := by omega
    have hd := ce.lt
    obtain ⟨y1, y2⟩ := Y.hh hi
    have hcl : ∀ j, c j ≤ 30 := fun j => by rw [hc]; exact popc_le _ 30
    have l := pvF_le (hg := hg) hcl i
    have ci := hcl i
    have u1 : (1 : Int32) + nI i = nI (1 + i) := by rw [li1, nI_add]
    have G : ∀ {α : Type} (o : Option α), gd (ib (nI (1 + i)) 5019) o = o := fun o => gd_t (ib_nI (show 1 + i < 5019 by omega) (by decide)) o
    rw [show N + (m + 1) + 1 = (N + m + 1) + 1 from rfl, mX12_paved_41, m_cells Y, bd_t, if_pos (nI_lt (by omega) (by omega)), u1, G]
    simp only [nx_nI (show 1 + i < 2 ^ 31 by omega), y1]
    have R : pvF c hg (i + 1) = if 0 < hg i ∧ ((pvF c hg i).2 = 99 ∨ (pvF c hg i).2 < c i) then (i, c i) else pvF c hg i := rfl
    by_cases hp : 0 < hg i
    · have Y1 := Y.ht (i := i) (x := hg i - 1) (by omega) (by omega)
      obtain ⟨τ1, e1, q1⟩ := m_doorsOf Y1 hk (dd := dd) (by omega)
      have L : orF (fun j => (rl (shutA w h kE kS pb t1 t2) (hput hg i (hg i - 1)) gr w (sz k) (fo k) j).1 == dd) 0 0 (w * h) < 2 ^ 30 := by
        refine Nat.lt_of_lt_of_le (orF_lt (w * h) 0 0 (Nat.pow_pos (by decide))) (Nat.pow_le_pow_right (by decide) (by omega))
      have Q := q1.back y1
      have y3 : τ1 1 (1 + i) = nI (hg i - 1) := by rw [q1 1 _ (by omega), su_s]
      obtain ⟨τ2, e2, q2⟩ := m_paved_loop (kk := kk) (v4 := v4) hk hc ce m N (i + 1) _ (Y.q Q) (by omega)
      rw [R] at e2
      refine ⟨τ2, ?_, Q.tr q2⟩
      have cc : popc (orF (fun j => (rl (shutA w h kE kS pb t1 t2) (hput hg i (hg i - 1)) gr w (sz k) (fo k) j).1 == dd) 0 0 (w * h)) 30 = c i := by rw [hc]; rfl
      rw [if_pos (show 0 < nI (hg i) from nI_lt (a := 0) hp (by omega)), G, G, li1, sub_nI hp, lt_t, CE.mb Y1 ce, bd_t, e1, bd_t, m_bits L, bd_t, G, G, y3, nI_add, Nat.sub_add_cancel hp, lt_t, cc]
      unfold mX12_paved_118 mX12_paved_134 mX12_paved_136
      simp only [lt_t, tr_ltp l.1 ci, li1, nI_add]
      by_cases q : (pvF c hg i).2 = 99 ∨ (pvF c hg i).2 < c i
      · rw [if_pos ⟨hp, q⟩, tr_lt (t := i) (by omega), tr_lt (t := c i) (by omega)] at e2
        rw [if_pos q, if_pos q]; exact e2
      · rw [if_neg (fun z => q z.2)] at e2
        rw [if_neg q, if_neg q]; exact e2
    · obtain ⟨τ2, e2, q2⟩ := m_paved_loop (kk := kk) (v4 := v4) hk hc ce m N (i + 1) τ Y (by omega)
      rw [R, if_neg (fun z => hp z.1)] at e2
      refine ⟨τ2, ?_, q2⟩
      rw [if_neg (show ¬ 0 < nI (hg i) from nI_nlt (a := 0) (by omega) (by omega)), mX12_paved_136, lt_t, li1, nI_add]
      exact e2
end
theorem sm_paved : Sm4 Inv mX11_paved mX12_paved := by
  intro a x y b σ τ I
  have I0 := I
  obtain ⟨w, h, gn, kn, kE, kS, gr, sz, wo, fo, tl, tx, sn, sk, sf, st, g, d, P, cv, im, is, ig, img, t1, t2⟩ := I
  have X := SX.of cv is ig.1 ig.2.2.1
  have Y := MX.of cv im ig.2.1 ig.2.2.1
  have h30 := X.1.1
  unfold mX11_paved mX12_paved
  rcases KIK.or kn a with ⟨k, ck⟩ | ck
  · rw [KIK.m Y ck, bd_t, if_neg n10]
    rcases CE.or w h x y with ⟨i, ci⟩ | ci
    · have hi := ci.lt
      rw [CE.s X ci, bd_t, CE.m Y ci, bd_t, if_neg n10, KIK.s X ck, bd_t, if_neg n10, if_neg (nI_m1 (by omega)), m_in1, bd_t]
      obtain ⟨hk, rfl⟩ := ck
      by_cases cb : ¬ b < 0 ∧ ¬ 1 < b
      · rw [decide_eq_true cb, z1_t, if_neg n10]
        have eS : ∀ u : Option (Int32 × St), (if b = 0 then mX11_paved_38 (nI k) b (nI i) σ else if b = 1 then mX11_paved_38 (nI k) b (nI i) σ else u) = mX11_paved_38 (nI k) b (nI i) σ := by
          intro u
          rcases wh2.mp cb with q | q
          · rw [if_pos q]
          · rw [if_neg (by rw [q]; decide), if_pos q]
        rw [eS]
        unfold mX11_paved_38
        obtain ⟨c, hc⟩ : ∃ c, c = pvC (shutA w h kE kS (g 5) 99 99) (g 0) gr w h (sz k) (fo k) i := ⟨_, rfl⟩
        have hcl : ∀ j, c j ≤ 30 := fun j => by rw [hc]; exact popc_le _ 30
        obtain ⟨σ2, A, q1⟩ := s_paved_loop (kk := mX11_paved_105) (v4 := b) hk (dd := i) (by omega) hc (w * h) (19999 - w * h) 0 σ X (by omega)
        rw [show 19999 - w * h + w * h + 1 = FU by unfold FU; omega] at A
        obtain ⟨τ2, B, q2⟩ := m_paved_loop (kk := mX12_paved_142) (v4 := b) hk hc ci (w * h) (19999 - w * h) 0 τ Y (by omega)
        rw [show 19999 - w * h + w * h + 1 = FU by unfold FU; omega] at B
        have A' : mX11_paved_48 mX11_paved_105 FU (nI k) b (nI i) (-1) (-9) 0 σ = mX11_paved_105 b (tr1 (pvF c (g 0) (w * h)).1) (tr (pvF c (g 0) (w * h)).2) σ2 := A
        have B' : mX12_paved_41 mX12_paved_142 FU (nI k) x y b (-9) (-9) 0 τ = mX12_paved_142 b (tr (pvF c (g 0) (w * h)).1) (tr (pvF c (g 0) (w * h)).2) τ2 := B
        rw [A', B']
        have l := pvF_le (hg := g 0) hcl (w * h)
        have J := I0.q q1 q2
        unfold mX11_paved_105 mX12_paved_142
        rcases l.2 with q | q
        · rw [q]
          exact ⟨-9, σ2, τ2, by rw [if_pos (show tr1 99 = -1 from rfl)], by rw [if_pos (show tr 99 = -9 from rfl)], J⟩
        · rw [tr_lt (t := (pvF c (g 0) (w * h)).1) (by omega), tr1_lt (by omega), if_neg (nI_m1 (by omega)), if_neg (nI_m9 (by omega)), s_pairOf (X.q q1) q, m_pairOf (Y.q q2) q, bd_t, bd_t]
          by_cases c0 : b = 0
          · exact ⟨_, σ2, τ2, by rw [if_pos c0], by rw [if_pos c0], J⟩
          · exact ⟨_, σ2, τ2, by rw [if_neg c0], by rw [if_neg c0], J⟩
      · rw [decide_eq_false cb, z1_f, if_pos rfl, if_neg (fun q => cb (wh2.mpr (Or.inl q))), if_neg (fun q => cb (wh2.mpr (Or.inr q)))]
        exact ⟨_, σ, τ, rfl, rfl, I0⟩
    · rw [CE.s0 X ci, bd_t, CE.mn Y ci, bd_t, if_pos rfl, KIK.s X ck, bd_t, if_neg n10, if_pos rfl]
      exact ⟨_, σ, τ, rfl, rfl, I0⟩
  · rw [KIK.mn Y ck, bd_t, if_pos rfl]
    refine ⟨-1, σ, τ, ?_, rfl, I0⟩
    rcases CE.or w h x y with ⟨i, ci⟩ | ci
    · rw [CE.s X ci, bd_t, KIK.s0 X ck, bd_t, if_pos rfl]
    · rw [CE.s0 X ci, bd_t, KIK.s0 X ck, bd_t, if_pos rfl]

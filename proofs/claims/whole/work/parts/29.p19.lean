/-! pure: moved -/
/-- the height beside, one lower (v = 0) or one higher (v = 1); 10: none -/
def nh (x v : Nat) : Nat := if v = 0 then (if x = 0 then 10 else x - 1) else if 9 ≤ x then 10 else x + 1
def cnd (sh : Nat → Nat → Bool) (hg gr : Nat → Nat) (w : Nat) (sz fo sk sf st : Nat → Nat) (sn i v : Nat) : Bool := if nh (hg i) v = 10 then false else allF (soF sh (hput hg i (nh (hg i) v)) gr w sz fo sk sf st) 0 sn
def mvS (w i v : Nat) (c : Bool) (p : Int32 × Int32) : Int32 × Int32 := if c then (p.1 + 1, if p.1 = 0 then 10 * nI (pr w i) + nI v else p.2) else p
def dv (v : Nat) : Int32 := if v = 0 then -1 else 1
theorem nh_le {x v : Nat} (hx : x ≤ 9) (h : ¬ nh x v = 10) : nh x v ≤ 9 := by
  unfold nh at *
  split
  · rename_i c
    rw [if_pos c] at h
    split <;> simp_all <;> omega
  · rename_i c
    rw [if_neg c] at h
    split <;> simp_all <;> omega
theorem nh_s : ∀ v, v < 2 → ∀ x, x < 10 → (nh x v = 10 → (nI x + dv v < 0 ∨ 9 < nI x + dv v)) ∧ (¬ nh x v = 10 → nI x + dv v = nI (nh x v) ∧ nI (nh x v) - dv v = nI x) := by decide +kernel
theorem nh_m : ∀ v, v < 2 → ∀ x, x < 10 → nI x + 2 * nI v - 1 = nI x + dv v := by decide +kernel
section
variable {σ τ σ' τ' : St} {w h gn kn kE kS tl sn d t1 t2 n : Nat} {gr sz wo fo tx sk sf st hg li pb : Nat → Nat} {g : Gr} {P : Nat → Gr} {sh : Nat → Nat → Bool}
theorem ME.q' (E : ME τ kn w h sn sk sf st) (ht : ∀ i j, i ≠ 1 → ¬ (i = 0 ∧ 32 ≤ j ∧ j ≤ 34) → τ' i j = τ i j) : ME τ' kn w h sn sk sf st := by
  obtain ⟨e1, e2, e3⟩ := E
  refine ⟨by rw [ht _ _ (by omega) (by omega)]; exact e1, e2, fun k hk => ?_⟩
  rw [ht _ _ (by omega) (by omega), ht _ _ (by omega) (by omega), ht _ _ (by omega) (by omega)]; exact e3 k hk
theorem s_cob (X : SX σ w h sh hg gr kn sz fo) (E : SE σ kn w h sn sk sf st) {i v : Nat} (hi : i < w * h) (hv : v < 2) : ∃ σ', mX11_isSoWithCobble (nI i) (dv v) σ = some (z1 (cnd sh hg gr w sz fo sk sf st sn i v), σ') ∧ SQu σ σ' := by
  have h30 := X.1.1
  obtain ⟨y1, y2⟩ := X.hh hi
  obtain ⟨a1, a2⟩ := nh_s v hv (hg i) (by omega)
  have G : ∀ {α : Type} (o : Option α), gd (ib (nI i) 30) o = o := fun o => gd_t (ib_nI (show i < 30 by omega) (by decide)) o
  unfold mX11_isSoWithCobble
  rw [G]
  simp only [nx_nI (show i < 2 ^ 31 by omega), y1, G]
  unfold cnd
  by_cases c : nh (hg i) v = 10
  · rw [if_pos c]
    refine ⟨σ, ?_, SQu.rfl' σ⟩
    have : mX11_isHeight (nI (hg i) + dv v) σ = some (0, σ) := by
      unfold mX11_isHeight
      by_cases q : nI (hg i) + dv v < 0
      · rw [if_pos q]
      · rw [if_neg q, if_pos ((a1 c).resolve_left q)]
    rw [this, bd_t, if_pos rfl]
    rfl
  · have l := nh_le y2 c
    obtain ⟨b1, b2⟩ := a2 c
    have H : mX11_isHeight (nI (nh (hg i) v)) σ = some (1, σ) := by
      unfold mX11_isHeight
      rw [if_neg (nI_pos (by omega)), if_neg (show ¬ 9 < nI (nh (hg i) v) from nI_nlt (a := 9) (by omega) (by omega))]
    have X1 := X.ht (i := i) (x := nh (hg i) v) l
    obtain ⟨σ1, e1, q1⟩ := s_so X1 (E.q (fun a b h1 => su_o (by omega)))
    refine ⟨s_up σ1 27 i (nI (hg i)), ?_, q1.back y1⟩
    rw [b1, H, bd_t, if_neg n10, y1, b1, lt_t, e1, bd_t, q1 27 i (by decide) (by decide), su_s, b2, lt_t, gd_t (zb_z1 _), if_neg c]
theorem s_moved_step {kk : Int32 → Int32 → Int32 → Int32 → St → Option (Int32 × St)} {v1 : Int32} (X : SX σ w h sh hg gr kn sz fo) (E : SE σ kn w h sn sk sf st) {i v n : Nat} (hi : i < w * h) (hv : v < 2) (p : Int32 × Int32) : ∃ σ', mX11_moved_34 kk (n + 1) v1 p.1 p.2 (nI i) (nI v) σ = mX11_moved_34 kk n v1 (mvS w i v (cnd sh hg gr w sz fo sk sf st sn i v) p).1 (mvS w i v (cnd sh hg gr w sz fo sk sf st sn i v) p).2 (nI i) (nI (v + 1)) σ' ∧ SQu σ σ' := by
  have h30 := X.1.1
  obtain ⟨σ1, e1, q1⟩ := s_cob X E hi hv
  refine ⟨σ1, ?_, q1⟩
  rw [mX11_moved_34, if_neg (show ¬ 1 < nI v from nI_nlt (a := 1) (by omega) (by omega))]
  have e : (if nI v = 1 then mX11_moved_54 kk (mX11_moved_34 kk n) v1 p.1 p.2 (nI i) (nI v) 1 (nI i) σ else mX11_moved_54 kk (mX11_moved_34 kk n) v1 p.1 p.2 (nI i) (nI v) (-1) (nI i) σ) = mX11_moved_54 kk (mX11_moved_34 kk n) v1 p.1 p.2 (nI i) (nI v) (dv v) (nI i) σ := by
    rcases (show v = 0 ∨ v = 1 by omega) with q | q
    · subst q; rw [if_neg (by decide)]; rfl
    · subst q; rw [if_pos (show nI 1 = 1 from rfl)]; rfl
  rw [e]
  unfold mX11_moved_54 mX11_moved_80 mX11_moved_83 mvS
  rw [e1, bd_t]
  cases cnd sh hg gr w sz fo sk sf st sn i v with
  | true =>
    rw [z1_t, if_neg n10, if_pos rfl]
    by_cases c0 : p.1 = 0
    · rw [if_pos c0, s_pairOf (X.q q1) hi, bd_t, lt_t, lt_t, lt_t, if_pos c0, li1, nI_add]
    · rw [if_neg c0, lt_t, lt_t, if_neg c0, show nI v + 1 = nI (v + 1) by rw [li1, nI_add]]
  | false => rw [z1_f, if_pos rfl, if_neg Bool.false_ne_true, lt_t, show nI v + 1 = nI (v + 1) by rw [li1, nI_add]]
theorem m_moved_step {kk : Int32 → Int32 → Int32 → Int32 → St → Option (Int32 × St)} {v1 : Int32} (Y : MX τ w h kE kS li pb t1 t2 hg gr kn sz fo) (E : ME τ kn w h sn sk sf st) {i v n : Nat} (hi : i < w * h) (hv : v < 2) (p : Int32 × Int32) : ∃ τ', mX12_moved_43 kk (n + 1) v1 p.1 p.2 (nI i) (nI (hg i)) (nI v) τ = mX12_moved_43 kk n v1 (mvS w i v (cnd (shutA w h kE kS pb t1 t2) hg gr w sz fo sk sf st sn i v) p).1 (mvS w i v (cnd (shutA w h kE kS pb t1 t2) hg gr w sz fo sk sf st sn i v) p).2 (nI i) (nI (hg i)) (nI (v + 1)) τ' ∧ MQu τ τ' := by
  have h30 := Y.n30
  obtain ⟨y1, y2⟩ := Y.hh hi
  obtain ⟨a1, a2⟩ := nh_s v hv (hg i) (by omega)
  have G : ∀ {α : Type} (o : Option α), gd (ib (nI (1 + i)) 5019) o = o := fun o => gd_t (ib_nI (show 1 + i < 5019 by omega) (by decide)) o
  have u1 : (1 : Int32) + nI i = nI (1 + i) := by rw [li1, nI_add]
  have u2 : nI v + 1 = nI (v + 1) := by rw [li1, nI_add]
  rw [mX12_moved_43, if_pos (show nI v < 2 from nI_lt (b := 2) hv (by decide)), nh_m v hv (hg i) (by omega), lt_t, u1, G, nx_nI (by omega), lt_t, m_in9, bd_t]
  by_cases c : nh (hg i) v = 10
  · have nn : ¬ (¬ nI (hg i) + dv v < 0 ∧ ¬ 9 < nI (hg i) + dv v) := fun q => (a1 c).elim q.1 q.2
    have Q : MQu τ (s_up (s_up τ 1 (1 + i) (nI (hg i) + dv v)) 1 (1 + i) (nI (hg i))) := MQu.back (MQu.rfl' _) y1
    refine ⟨_, ?_, Q⟩
    rw [decide_eq_false nn, z1_f, if_pos rfl]
    unfold mX12_moved_95 mX12_moved_96 mX12_moved_133 mX12_moved_134 mX12_moved_146 mvS cnd
    rw [u1, G, nx_nI (by omega), lt_t, if_pos rfl, if_pos rfl, lt_t, lt_t, if_pos c, if_neg Bool.false_ne_true, u2, Int32.add_zero]
  · have l := nh_le y2 c
    obtain ⟨b1, b2⟩ := a2 c
    have Y1 := Y.ht (i := i) (x := nh (hg i) v) (by omega) l
    obtain ⟨τ1, e1, q1⟩ := m_so Y1 (E.q' (fun a b h1 h2 => su_o (by omega)))
    have Q := q1.back y1
    refine ⟨_, ?_, Q⟩
    have yy : ¬ nI (nh (hg i) v) < 0 ∧ ¬ 9 < nI (nh (hg i) v) := ⟨nI_pos (by omega), nI_nlt (a := 9) (by omega) (by omega)⟩
    rw [b1, decide_eq_true yy, z1_t, if_neg n10, e1, bd_t]
    unfold mX12_moved_95 mX12_moved_96 mX12_moved_133 mX12_moved_134 mX12_moved_146 mvS cnd
    rw [u1, G, G, nx_nI (by omega), lt_t, lt_t, if_neg c]
    cases allF (soF (shutA w h kE kS pb t1 t2) (hput hg i (nh (hg i) v)) gr w sz fo sk sf st) 0 sn with
    | true =>
      rw [z1_t, if_neg n10, lt_t, if_neg n10, if_pos rfl]
      by_cases c0 : p.1 = 0
      · rw [if_pos c0, m_pairOf (Y.q Q) hi, bd_t, if_neg n10, lt_t, lt_t, if_pos c0, u2]
      · rw [if_neg c0, if_neg n10, lt_t, lt_t, if_neg c0, u2]
    | false =>
      rw [z1_f, if_pos rfl, if_pos rfl, if_pos rfl, if_neg Bool.false_ne_true, u2, Int32.add_zero, lt_t]
def mvI (w : Nat) (c : Nat → Nat → Bool) : Nat → Int32 × Int32
  | 0 => (0, -9)
  | i + 1 => mvS w i 1 (c i 1) (mvS w i 0 (c i 0) (mvI w c i))
theorem s_moved_loop {kk : Int32 → Int32 → Int32 → St → Option (Int32 × St)} {v1 : Int32} : ∀ (m N i : Nat) (σ : St), SX σ w h sh hg gr kn sz fo → SE σ kn w h sn sk sf st → i + m = w * h → ∃ σ', mX11_moved_19 kk (N + m + 1) v1 (mvI w (cnd sh hg gr w sz fo sk sf st sn) i).1 (mvI w (cnd sh hg gr w sz fo sk sf st sn) i).2 (nI i) σ = kk v1 (mvI w (cnd sh hg gr w sz fo sk sf st sn) (w * h)).1 (mvI w (cnd sh hg gr w sz fo sk sf st sn) (w * h)).2 σ' ∧ SQu σ σ'
  | 0, N, i, σ, X, E, e => by
    have h30 := X.1.1
    refine ⟨σ, ?_, SQu.rfl' σ⟩
    rw [show N + 0 + 1 = N + 1 from rfl, mX11_moved_19, X.2.2.1, if_neg (nI_nlt (by omega) (by omega)), show i = w * h by omega]
  | m + 1, N, i, σ, X, E, e => by
    have h30 := X.1.1
    have hi : i < w * h := by omega
    obtain ⟨σ1, e1, q1⟩ := s_moved_step (kk := mX11_moved_89 kk (mX11_moved_19 kk (N + m + 1))) (v1 := v1) X E (v := 0) (n := 19999) hi (by decide) (mvI w (cnd sh hg gr w sz fo sk sf st sn) i)
    obtain ⟨σ2, e2, q2⟩ := s_moved_step (kk := mX11_moved_89 kk (mX11_moved_19 kk (N + m + 1))) (v1 := v1) (X.q q1) (E.q (fun a b h1 => q1 a b (by omega) (by omega))) (v := 1) (n := 19998) hi (by decide) (mvS w i 0 (cnd sh hg gr w sz fo sk sf st sn i 0) (mvI w (cnd sh hg gr w sz fo sk sf st sn) i))
    have q12 := q1.tr q2
    obtain ⟨σ3, e3, q3⟩ := s_moved_loop (kk := kk) (v1 := v1) m N (i + 1) σ2 (X.q q12) (E.q (fun a b h1 => q12 a b (by omega) (by omega))) (by omega)
    refine ⟨σ3, ?_, q12.tr q3⟩
    rw [show N + (m + 1) + 1 = (N + m + 1) + 1 from rfl, mX11_moved_19, X.2.2.1, if_pos (nI_lt (by omega) (by omega)), show (0 : Int32) = nI 0 from rfl, show FU = 19999 + 1 from rfl, e1]
    rw [show (19999 : Nat) = 19998 + 1 from rfl, show (0 : Nat) + 1 = 1 from rfl, e2, show (19998 : Nat) = 19997 + 1 from rfl, mX11_moved_34, if_pos (show 1 < nI (1 + 1) from nI_lt (a := 1) (by decide) (by decide))]
    unfold mX11_moved_89
    rw [lt_t, li1, nI_add]
    exact e3
theorem m_moved_loop {kk : Int32 → Int32 → Int32 → St → Option (Int32 × St)} {v1 : Int32} : ∀ (m N i : Nat) (τ : St), MX τ w h kE kS li pb t1 t2 hg gr kn sz fo → ME τ kn w h sn sk sf st → i + m = w * h → ∃ τ', mX12_moved_20 kk (N + m + 1) v1 (mvI w (cnd (shutA w h kE kS pb t1 t2) hg gr w sz fo sk sf st sn) i).1 (mvI w (cnd (shutA w h kE kS pb t1 t2) hg gr w sz fo sk sf st sn) i).2 (nI i) τ = kk v1 (mvI w (cnd (shutA w h kE kS pb t1 t2) hg gr w sz fo sk sf st sn) (w * h)).1 (mvI w (cnd (shutA w h kE kS pb t1 t2) hg gr w sz fo sk sf st sn) (w * h)).2 τ' ∧ MQu τ τ'
  | 0, N, i, τ, Y, E, e => by
    have h30 := Y.n30
    refine ⟨τ, ?_, MQu.rfl' τ⟩
    rw [show N + 0 + 1 = N + 1 from rfl, mX12_moved_20, m_cells Y, bd_t, if_neg (nI_nlt (by omega) (by omega)), show i = w * h by omega]
  | m + 1, N, i, τ, Y, E, e => by
    have h30 := Y.n30
    have hi : i < w * h := by omega
    obtain ⟨y1, y2⟩ := Y.hh hi
    obtain ⟨τ1, e1, q1⟩ := m_moved_step (kk := mX12_moved_154 kk (mX12_moved_20 kk (N + m + 1))) (v1 := v1) Y E (v := 0) (n := 19999) hi (by decide) (mvI w (cnd (shutA w h kE kS pb t1 t2) hg gr w sz fo sk sf st sn) i)
    obtain ⟨τ2, e2, q2⟩ := m_moved_step (kk := mX12_moved_154 kk (mX12_moved_20 kk (N + m + 1))) (v1 := v1) (Y.q q1) (E.q q1) (v := 1) (n := 19998) hi (by decide) (mvS w i 0 (cnd (shutA w h kE kS pb t1 t2) hg gr w sz fo sk sf st sn i 0) (mvI w (cnd (shutA w h kE kS pb t1 t2) hg gr w sz fo sk sf st sn) i))
    have q12 := q1.tr q2
    obtain ⟨τ3, e3, q3⟩ := m_moved_loop (kk := kk) (v1 := v1) m N (i + 1) τ2 (Y.q q12) (E.q q12) (by omega)
    refine ⟨τ3, ?_, q12.tr q3⟩
    have u1 : (1 : Int32) + nI i = nI (1 + i) := by rw [li1, nI_add]
    rw [show N + (m + 1) + 1 = (N + m + 1) + 1 from rfl, mX12_moved_20, m_cells Y, bd_t, if_pos (nI_lt (by omega) (by omega)), u1, gd_t (ib_nI (by omega) (by decide)), nx_nI (by omega), y1, lt_t, show (0 : Int32) = nI 0 from rfl, show FU = 19999 + 1 from rfl, e1]
    rw [show (19999 : Nat) = 19998 + 1 from rfl, show (0 : Nat) + 1 = 1 from rfl, e2, show (19998 : Nat) = 19997 + 1 from rfl, mX12_moved_43, if_neg (show ¬ nI (1 + 1) < 2 from nI_nlt (b := 2) (by decide) (by decide))]
    unfold mX12_moved_154
    rw [lt_t, li1, nI_add]
    exact e3
end
theorem sm_moved : Sm1 Inv mX11_moved mX12_moved := by
  intro a σ τ I
  have I0 := I
  obtain ⟨w, h, gn, kn, kE, kS, gr, sz, wo, fo, tl, tx, sn, sk, sf, st, g, d, P, cv, im, is, ig, img, t1, t2⟩ := I
  have X := SX.of cv is ig.1 ig.2.2.1
  have Y := MX.of cv im ig.2.1 ig.2.2.1
  have h30 := X.1.1
  unfold mX11_moved mX12_moved
  rw [m_in1, bd_t]
  by_cases cb : ¬ a < 0 ∧ ¬ 1 < a
  · rw [decide_eq_true cb, z1_t, if_neg n10]
    have eS : ∀ u : Option (Int32 × St), (if a = 0 then mX11_moved_11 a σ else if a = 1 then mX11_moved_11 a σ else u) = mX11_moved_11 a σ := by
      intro u
      rcases wh2.mp cb with q | q
      · rw [if_pos q]
      · rw [if_neg (by rw [q]; decide), if_pos q]
    rw [eS]
    unfold mX11_moved_11
    obtain ⟨σ2, A, q1⟩ := s_moved_loop (kk := mX11_moved_95) (v1 := a) (w * h) (19999 - w * h) 0 σ X (SE.of cv is) (by omega)
    rw [show 19999 - w * h + w * h + 1 = FU by unfold FU; omega] at A
    obtain ⟨τ2, B, q2⟩ := m_moved_loop (kk := mX12_moved_160) (v1 := a) (w * h) (19999 - w * h) 0 τ Y (ME.of cv im) (by omega)
    rw [show 19999 - w * h + w * h + 1 = FU by unfold FU; omega] at B
    have A' : mX11_moved_19 mX11_moved_95 FU a 0 (-9) 0 σ = _ := A
    have B' : mX12_moved_20 mX12_moved_160 FU a 0 (-9) 0 τ = _ := B
    rw [A', B']
    unfold mX11_moved_95 mX12_moved_160
    by_cases c0 : a = 0
    · exact ⟨_, σ2, τ2, by rw [if_pos c0], by rw [if_pos c0], I0.q q1 q2⟩
    · exact ⟨_, σ2, τ2, by rw [if_neg c0], by rw [if_neg c0], I0.q q1 q2⟩
  · rw [decide_eq_false cb, z1_f, if_pos rfl, if_neg (fun q => cb (wh2.mpr (Or.inl q))), if_neg (fun q => cb (wh2.mpr (Or.inr q)))]
    exact ⟨_, σ, τ, rfl, rfl, I0⟩

/-! pure: rain -/
theorem s_fill_loop {r ni : Nat} {v : Int32} (hn : ni < 2 ^ 31) : ∀ (m N i : Nat) (σ : St), i + m = ni → ∃ σ', mJ7_fill_5 r ni (N + m + 1) v (nI i) (nI ni) σ = some (0, σ') ∧ (∀ j, i ≤ j → j < ni → σ' r j = v) ∧ ∀ a j, ¬ (a = r ∧ i ≤ j ∧ j < ni) → σ' a j = σ a j
  | 0, N, i, σ, e => by
    refine ⟨σ, ?_, fun j h1 h2 => by omega, fun a j _ => rfl⟩
    rw [show N + 0 + 1 = N + 1 from rfl, mJ7_fill_5, if_neg (nI_nlt (by omega) (by omega))]
  | m + 1, N, i, σ, e => by
    obtain ⟨σ', e1, e2, e3⟩ := s_fill_loop (r := r) (v := v) hn m N (i + 1) (s_up σ r i v) (by omega)
    refine ⟨σ', ?_, fun j h1 h2 => ?_, fun a j hj => ?_⟩
    · rw [show N + (m + 1) + 1 = (N + m + 1) + 1 from rfl, mJ7_fill_5, if_pos (nI_lt (by omega) (by omega)), gd_t (ib_nI (by omega) hn), lt_t, lt_t, li1, nI_add, nx_nI (by omega)]
      exact e1
    · rcases (show j = i ∨ i + 1 ≤ j by omega) with q | q
      · subst q; rw [e3 r j (by omega), su_s]
      · exact e2 j q h2
    · rw [e3 a j (by omega), su_o (by omega)]
theorem s_fill {r ni : Nat} {v : Int32} {σ : St} (hn : ni < 19999) : ∃ σ', mJ7_fill r ni v σ = some (0, σ') ∧ (∀ j, j < ni → σ' r j = v) ∧ ∀ a j, ¬ (a = r ∧ j < ni) → σ' a j = σ a j := by
  obtain ⟨σ', e1, e2, e3⟩ := s_fill_loop (r := r) (v := v) (ni := ni) (by omega) ni (19999 - ni) 0 σ (by omega)
  rw [show 19999 - ni + ni + 1 = FU by unfold FU; omega, ← li0] at e1
  refine ⟨σ', ?_, fun j h => e2 j (Nat.zero_le j) h, fun a j h => e3 a j (by omega)⟩
  unfold mJ7_fill
  rw [lt_t]
  exact e1
theorem nI_m9 {a : Nat} (h : a < 2 ^ 31) : ¬ nI a = -9 := by
  intro e
  have h1 := congrArg Int32.toInt e
  rw [nI_toInt h] at h1
  have h2 : (-9 : Int32).toInt = -9 := by decide
  omega
def ind (f : Nat → Nat) (e j : Nat) : Nat := if f j = e then 1 else 0
theorem sumN_ind (f : Nat → Nat) (e : Nat) : ∀ n, sumN (ind f e) n ≤ n
  | 0 => Nat.le_refl _
  | n + 1 => by have := sumN_ind f e n; unfold sumN ind; split <;> (unfold ind at this; omega)
def amF (c : Nat → Nat) : Nat → Nat × Nat
  | 0 => (99, 0)
  | i + 1 => if (amF c i).2 < c i then (i, c i) else amF c i
def tr1 (t : Nat) : Int32 := if t = 99 then -1 else nI t
def SQv (σ σ' : St) : Prop := ∀ i j, i ≠ 3 → i ≠ 59 → i ≠ 60 → σ' i j = σ i j
theorem amF_le {c : Nat → Nat} (hc : ∀ j, c j ≤ 30) : ∀ i, (amF c i).2 ≤ 30 ∧ ((amF c i).1 = 99 ∨ (amF c i).1 < i)
  | 0 => by unfold amF; omega
  | i + 1 => by
    have := amF_le hc i
    have := hc i
    unfold amF
    split
    · simp; omega
    · omega
section
variable {σ τ σ' τ' : St} {w h gn kn kE kS tl sn d t1 t2 n : Nat} {gr sz wo fo tx sk sf st hg li pb : Nat → Nat} {g : Gr} {P : Nat → Gr} {sh : Nat → Nat → Bool}
theorem s_tally {kk : Int32 → St → Option (Int32 × St)} {v1 : Int32} {f : Nat → Nat} (hf : f = fun j => (rl sh hg gr w 1 0 j).1) : ∀ (m N i : Nat) (σ : St), SX σ w h sh hg gr kn sz fo → (∀ e, e < 30 → σ 3 e = nI (sumN (ind f e) i)) → i + m = w * h → ∃ σ', mX11_rain_21 kk (N + m + 1) v1 (nI i) σ = kk v1 σ' ∧ (∀ e, e < 30 → σ' 3 e = nI (sumN (ind f e) (w * h))) ∧ SQv σ σ'
  | 0, N, i, σ, X, T, e => by
    have h30 := X.1.1
    refine ⟨σ, ?_, fun q hq => by rw [← show i = w * h by omega]; exact T q hq, fun _ _ _ _ _ => rfl⟩
    rw [show N + 0 + 1 = N + 1 from rfl, mX11_rain_21, X.2.2.1, if_neg (nI_nlt (by omega) (by omega))]
  | m + 1, N, i, σ, X, T, e => by
    have h30 := X.1.1
    have hi : i < w * h := by omega
    have l := X.lt (size := 1) (f0 := 0) hi
    have G := s_go X.1 (r := 59) (size := 1) (fo := 0) (by omega) (by omega) (by omega) hi
    rw [show nI 1 = 1 from rfl, show nI 0 = 0 from rfl] at G
    have hfi : f i = (rl sh hg gr w 1 0 i).1 := by rw [hf]
    rw [show N + (m + 1) + 1 = (N + m + 1) + 1 from rfl, mX11_rain_21, X.2.2.1, if_pos (nI_lt (by omega) (by omega)), G, bd_t, g5_r0]
    rw [show (rolA sh hg gr w 1 0 10 i 4 0 (2 ^ i)).1 = f i from hfi.symm] at *
    rw [gd_t (ib_nI (show f i < 30 by omega) (by decide)), gd_t (ib_nI (show f i < 30 by omega) (by decide)), nx_nI (by omega), g5_o (by decide) (by decide), T _ (show f i < 30 by omega), lt_t, lt_t, li1, nI_add, nI_add]
    obtain ⟨σ2, e2, T2, q2⟩ := s_tally (kk := kk) (v1 := v1) hf m N (i + 1) (s_up (g5 σ 59 (nI (f i)) (z1 (rolA sh hg gr w 1 0 10 i 4 0 (2 ^ i)).2.1) (nI (rolA sh hg gr w 1 0 10 i 4 0 (2 ^ i)).2.2.1) (nI (rolA sh hg gr w 1 0 10 i 4 0 (2 ^ i)).2.2.2) (wrl (σ (59 + 1)) 0 (rolC sh hg gr w 1 0 10 i 4))) 3 (f i) (nI (sumN (ind f (f i)) i + 1))) (X.q' (fun a b hab => by rw [su_o (by omega), g5_o (by omega) (by omega)])) (fun q hq => by
      show _ = nI (sumN (ind f q) i + ind f q i)
      unfold ind
      by_cases c : f i = q
      · subst c; rw [if_pos rfl, su_s]
      · rw [if_neg c, su_o (by omega), g5_o (by omega) (by omega)]; exact T q hq) (by omega)
    exact ⟨σ2, e2, T2, fun a b h1 h2 h3 => by rw [q2 a b h1 h2 h3, su_o (by omega), g5_o (by omega) (by omega)]⟩
theorem tr1_lt {t : Nat} (h : t < 99) : tr1 t = nI t := by unfold tr1; rw [if_neg (by omega)]
theorem tr_lt {t : Nat} (h : t < 99) : tr t = nI t := by unfold tr; rw [if_neg (by omega)]
theorem s_am {kk : Int32 → Int32 → Int32 → St → Option (Int32 × St)} {v1 : Int32} {c : Nat → Nat} (hc : ∀ j, c j ≤ 30) (h30 : n ≤ 30) (hn : σ 10 2 = nI n) (hT : ∀ e, e < 30 → σ 3 e = nI (c e)) : ∀ (m N i : Nat), i + m = n → mX11_rain_79 kk (N + m + 1) v1 (tr1 (amF c i).1) (nI (amF c i).2) (nI i) σ = kk v1 (tr1 (amF c n).1) (nI (amF c n).2) σ
  | 0, N, i, e => by
    rw [show N + 0 + 1 = N + 1 from rfl, mX11_rain_79, hn, if_neg (nI_nlt (by omega) (by omega)), show i = n by omega]
  | m + 1, N, i, e => by
    have L := s_am (kk := kk) (v1 := v1) hc h30 hn hT m N (i + 1) (by omega)
    have l := amF_le hc i
    have := hc i
    rw [show N + (m + 1) + 1 = (N + m + 1) + 1 from rfl, mX11_rain_79, hn, if_pos (nI_lt (by omega) (by omega)), gd_t (ib_nI (by omega) (by decide)), gd_t (ib_nI (by omega) (by decide)), nx_nI (by omega), hT i (by omega)]
    unfold mX11_rain_113
    simp only [lt_t, li1, nI_add, nI_ltp (show (amF c i).2 < 2 ^ 31 by omega) (show c i < 2 ^ 31 by omega)]
    rw [show amF c (i + 1) = if (amF c i).2 < c i then (i, c i) else amF c i from rfl] at L
    by_cases q : (amF c i).2 < c i
    · rw [if_pos q, tr1_lt (t := i) (by omega)] at L
      rw [if_pos q]; exact L
    · rw [if_neg q] at L
      rw [if_neg q]; exact L
theorem m_cnt {kk : Int32 → Int32 → Int32 → Int32 → Int32 → St → Option (Int32 × St)} {v1 v2 v3 : Int32} {f : Nat → Nat} {e : Nat} (he : e < 2 ^ 31) (hf : f = fun j => (rl (shutA w h kE kS pb t1 t2) hg gr w 1 0 j).1) : ∀ (m N i : Nat) (τ : St), MX τ w h kE kS li pb t1 t2 hg gr kn sz fo → i + m = w * h → ∃ τ', mX12_rain_35 kk (N + m + 1) v1 v2 v3 (nI e) (nI (sumN (ind f e) i)) (nI i) τ = kk v1 v2 v3 (nI e) (nI (sumN (ind f e) (w * h))) τ' ∧ MQu τ τ'
  | 0, N, i, τ, Y, ee => by
    have h30 := Y.n30
    refine ⟨τ, ?_, MQu.rfl' τ⟩
    rw [show N + 0 + 1 = N + 1 from rfl, mX12_rain_35, m_cells Y, bd_t, if_neg (nI_nlt (by omega) (by omega)), show i = w * h by omega]
  | m + 1, N, i, τ, Y, ee => by
    have h30 := Y.n30
    have hi : i < w * h := by omega
    have l := Y.lt (size := 1) (f0 := 0) hi
    have G := m_roll (Y.1 (pos_of hi)) (size := 1) (fo := 0) (by omega) (by omega) hi
    have hfi : f i = (rl (shutA w h kE kS pb t1 t2) hg gr w 1 0 i).1 := by rw [hf]
    have R := enc_rem (r := rl (shutA w h kE kS pb t1 t2) hg gr w 1 0 i) (by omega)
    have Q : MQu τ (m3 τ (enc (rolA (shutA w h kE kS pb t1 t2) hg gr w 1 0 10 i 4 0 (2 ^ i))) (nI (rolA (shutA w h kE kS pb t1 t2) hg gr w 1 0 10 i 4 0 (2 ^ i)).2.2.1) (nI (rolA (shutA w h kE kS pb t1 t2) hg gr w 1 0 10 i 4 0 (2 ^ i)).2.2.2)) := fun a b h1 => m3_o (by omega)
    obtain ⟨τ2, e2, q2⟩ := m_cnt (kk := kk) (v1 := v1) (v2 := v2) (v3 := v3) he hf m N (i + 1) _ (Y.q Q) (by omega)
    rw [show N + (m + 1) + 1 = (N + m + 1) + 1 from rfl, mX12_rain_35, m_cells Y, bd_t, if_pos (nI_lt (by omega) (by omega)), show (1 : Int32) = nI 1 from rfl, show (0 : Int32) = nI 0 from rfl, G, bd_t, show m3 τ (enc (rolA (shutA w h kE kS pb t1 t2) hg gr w 1 0 10 i 4 0 (2 ^ i))) (nI (rolA (shutA w h kE kS pb t1 t2) hg gr w 1 0 10 i 4 0 (2 ^ i)).2.2.1) (nI (rolA (shutA w h kE kS pb t1 t2) hg gr w 1 0 10 i 4 0 (2 ^ i)).2.2.2) 0 32 = enc (rl (shutA w h kE kS pb t1 t2) hg gr w 1 0 i) from rfl, R, ← hfi]
    refine ⟨τ2, ?_, Q.tr q2⟩
    unfold mX12_rain_71
    rw [show sumN (ind f e) (i + 1) = sumN (ind f e) i + ind f e i from rfl] at e2
    unfold ind at *
    simp only [lt_t, nI_inj (show f i < 2 ^ 31 by omega) he]
    by_cases c : f i = e
    · rw [if_pos c] at e2
      rw [if_pos c, nI_add, li1, nI_add]; exact e2
    · rw [if_neg c] at e2
      rw [if_neg c, nI_add, li1, nI_add]; exact e2
theorem m_am {kk : Int32 → Int32 → Int32 → St → Option (Int32 × St)} {v1 : Int32} {f c : Nat → Nat} (hf : f = fun j => (rl (shutA w h kE kS pb t1 t2) hg gr w 1 0 j).1) (hc : c = fun e => sumN (ind f e) (w * h)) : ∀ (m N i : Nat) (τ : St), MX τ w h kE kS li pb t1 t2 hg gr kn sz fo → i + m = w * h → ∃ τ', mX12_rain_20 kk (N + m + 1) v1 (tr (amF c i).1) (nI (amF c i).2) (nI i) τ = kk v1 (tr (amF c (w * h)).1) (nI (amF c (w * h)).2) τ' ∧ MQu τ τ'
  | 0, N, i, τ, Y, ee => by
    have h30 := Y.n30
    refine ⟨τ, ?_, MQu.rfl' τ⟩
    rw [show N + 0 + 1 = N + 1 from rfl, mX12_rain_20, m_cells Y, bd_t, if_neg (nI_nlt (by omega) (by omega)), show i = w * h by omega]
  | m + 1, N, i, τ, Y, ee => by
    have h30 := Y.n30
    have hcl : ∀ j, c j ≤ 30 := fun j => by rw [hc]; exact Nat.le_trans (sumN_ind f j _) h30
    have l := amF_le hcl i
    have := hcl i
    obtain ⟨τ1, e1, q1⟩ := m_cnt (kk := mX12_rain_80 kk (mX12_rain_20 kk (N + m + 1))) (v1 := v1) (v2 := tr (amF c i).1) (v3 := nI (amF c i).2) (e := i) (by omega) hf (w * h) (19999 - w * h) 0 τ Y (by omega)
    rw [show 19999 - w * h + w * h + 1 = FU by unfold FU; omega, show sumN (ind f i) 0 = 0 from rfl, show sumN (ind f i) (w * h) = c i by rw [hc]] at e1
    obtain ⟨τ2, e2, q2⟩ := m_am (kk := kk) (v1 := v1) hf hc m N (i + 1) τ1 (Y.q q1) (by omega)
    rw [show N + (m + 1) + 1 = (N + m + 1) + 1 from rfl, mX12_rain_20, m_cells Y, bd_t, if_pos (nI_lt (by omega) (by omega)), show (0 : Int32) = nI 0 from rfl, e1]
    refine ⟨τ2, ?_, q1.tr q2⟩
    unfold mX12_rain_80 mX12_rain_92 mX12_rain_105
    simp only [lt_t, li1, nI_add, nI_ltp (show (amF c i).2 < 2 ^ 31 by omega) (show c i < 2 ^ 31 by omega)]
    rw [show amF c (i + 1) = if (amF c i).2 < c i then (i, c i) else amF c i from rfl] at e2
    by_cases q : (amF c i).2 < c i
    · rw [if_pos q, tr_lt (t := i) (by omega)] at e2
      rw [if_pos q, if_pos q]; exact e2
    · rw [if_neg q] at e2
      rw [if_neg q, if_neg q]; exact e2
end
theorem sm_rain : Sm1 Inv mX11_rain mX12_rain := by
  intro a σ τ I
  have I0 := I
  obtain ⟨w, h, gn, kn, kE, kS, gr, sz, wo, fo, tl, tx, sn, sk, sf, st, g, d, P, cv, im, is, ig, img, t1, t2⟩ := I
  have X := SX.of cv is ig.1 ig.2.2.1
  have Y := MX.of cv im ig.2.1 ig.2.2.1
  have h30 := X.1.1
  unfold mX11_rain mX12_rain
  rw [m_in1, bd_t]
  by_cases cb : ¬ a < 0 ∧ ¬ 1 < a
  · rw [decide_eq_true cb, z1_t, if_neg n10]
    have eS : ∀ u : Option (Int32 × St), (if a = 0 then mX11_rain_11 a σ else if a = 1 then mX11_rain_11 a σ else u) = mX11_rain_11 a σ := by
      intro u
      rcases wh2.mp cb with q | q
      · rw [if_pos q]
      · rw [if_neg (by rw [q]; decide), if_pos q]
    rw [eS]
    unfold mX11_rain_11
    obtain ⟨σ1, e1, e2, e3⟩ := s_fill (r := 3) (ni := 30) (v := 0) (σ := σ) (by decide)
    rw [e1, bd_t]
    have X1 : SX σ1 w h (shutA w h kE kS (g 5) 99 99) (g 0) gr kn sz fo := X.q' (fun i j hi => e3 i j (by omega))
    obtain ⟨f, hf⟩ : ∃ f, f = fun j => (rl (shutA w h kE kS (g 5) 99 99) (g 0) gr w 1 0 j).1 := ⟨_, rfl⟩
    obtain ⟨c, hc⟩ : ∃ c, c = fun e => sumN (ind f e) (w * h) := ⟨_, rfl⟩
    have hcl : ∀ j, c j ≤ 30 := fun j => by rw [hc]; exact Nat.le_trans (sumN_ind f j _) h30
    obtain ⟨σ2, u1, u2, u3⟩ := s_tally (kk := mX11_rain_72) (v1 := a) hf (w * h) (19999 - w * h) 0 σ1 X1 (fun e he => e2 e he) (by omega)
    rw [show 19999 - w * h + w * h + 1 = FU by unfold FU; omega] at u1
    have X2 : SX σ2 w h (shutA w h kE kS (g 5) 99 99) (g 0) gr kn sz fo := X1.q' (fun i j hi => u3 i j (by omega) (by omega) (by omega))
    have A := s_am (kk := mX11_rain_119) (v1 := a) (c := c) (σ := σ2) hcl h30 X2.2.2.1 (fun e he => by rw [u2 e he, hc]) (w * h) (19999 - w * h) 0 (by omega)
    rw [show 19999 - w * h + w * h + 1 = FU by unfold FU; omega] at A
    obtain ⟨τ2, B, q2⟩ := m_am (kk := mX12_rain_112) (v1 := a) hf hc (w * h) (19999 - w * h) 0 τ Y (by omega)
    rw [show 19999 - w * h + w * h + 1 = FU by unfold FU; omega] at B
    have e9 : (-9 : Int32) = tr (amF c 0).1 := rfl
    have f9 : (0 : Int32) = nI (amF c 0).2 := rfl
    have J : Inv σ2 τ2 := I0.fr (fun i j h => by unfold rS at h; rw [u3 i j (by omega) (by omega) (by omega), e3 i j (by omega)]) (fun i j h => q2 i j (by unfold rM at h; omega))
    have u1' : mX11_rain_21 mX11_rain_72 FU a 0 σ1 = mX11_rain_119 a (tr1 (amF c (w * h)).1) (nI (amF c (w * h)).2) σ2 := by
      rw [← A]; exact u1
    have B' : mX12_rain_20 mX12_rain_112 FU a (-9) 0 0 τ = mX12_rain_112 a (tr (amF c (w * h)).1) (nI (amF c (w * h)).2) τ2 := B
    rw [u1', B']
    unfold mX11_rain_119 mX12_rain_112
    have l := amF_le hcl (w * h)
    by_cases c1 : a = 1
    · exact ⟨_, σ2, τ2, by rw [if_pos c1], by rw [if_pos c1], J⟩
    · rw [if_neg c1, if_neg c1]
      rcases l.2 with q | q
      · rw [q]
        exact ⟨-9, σ2, τ2, by rw [if_pos (show tr1 99 = -1 from rfl)], by rw [if_pos (show tr 99 = -9 from rfl)], J⟩
      · rw [tr_lt (by omega), tr1_lt (by omega), if_neg (nI_m1 (by omega)), if_neg (nI_m9 (by omega)), s_pairOf X2 q, m_pairOf (Y.q q2) q, bd_t, bd_t]
        exact ⟨_, σ2, τ2, rfl, rfl, J⟩
  · rw [decide_eq_false cb, z1_f, if_pos rfl, if_neg (fun q => cb (wh2.mpr (Or.inl q))), if_neg (fun q => cb (wh2.mpr (Or.inr q)))]
    exact ⟨_, σ, τ, rfl, rfl, I0⟩

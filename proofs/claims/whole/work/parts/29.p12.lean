/-! pure: kind, cell, saw, end, doors, apart -/
theorem n10 : ¬ (1 : Int32) = 0 := by decide
theorem sm_kind : Sm2 Inv mX11_kind mX12_kind := by
  intro a b σ τ I
  have I0 := I
  obtain ⟨w, h, gn, kn, kE, kS, gr, sz, wo, fo, tl, tx, sn, sk, sf, st, g, d, P, cv, im, is, ig, img, t1, t2⟩ := I
  have X := SX.of cv is ig.1 ig.2.2.1
  have Y := MX.of cv im ig.2.1 ig.2.2.1
  unfold mX11_kind mX12_kind
  rcases KIK.or kn a with ⟨k, c⟩ | c
  · rw [KIK.s X c, KIK.m Y c, bd_t, bd_t, if_neg n10, if_neg n10]
    obtain ⟨hk, rfl⟩ := c
    have k5 := X.2.2.2.2.1
    obtain ⟨p1, p2, p3⟩ := im.2.2.2.2.2.2.2.2.2.2.1 k hk
    obtain ⟨q1, q2, q3⟩ := is.2.2.2.2.2.2.2.2.2.1 k hk
    simp only [gd_t (ib_nI (show k < 5 by omega) (by decide)), nx_nI (show k < 2 ^ 31 by omega), p1, p2, p3, q1, q2, q3]
    by_cases c0 : b = 0
    · exact ⟨_, σ, τ, by rw [if_pos c0], by rw [if_pos c0], I0⟩
    by_cases c1 : b = 1
    · exact ⟨_, σ, τ, by rw [if_neg c0, if_pos c1], by rw [if_neg c0, if_pos c1], I0⟩
    by_cases c2 : b = 2
    · exact ⟨_, σ, τ, by rw [if_neg c0, if_neg c1, if_pos c2], by rw [if_neg c0, if_neg c1, if_pos c2], I0⟩
    · exact ⟨_, σ, τ, by rw [if_neg c0, if_neg c1, if_neg c2], by rw [if_neg c0, if_neg c1, if_neg c2], I0⟩
  · rw [KIK.s0 X c, KIK.mn Y c, bd_t, bd_t, if_pos rfl, if_pos rfl]
    exact ⟨_, σ, τ, rfl, rfl, I0⟩
/-- four ways as bits -/
def b4 (f : Nat → Bool) : Nat := (((0 ||| if f 0 then 2 ^ 0 else 0) ||| if f 1 then 2 ^ 1 else 0) ||| if f 2 then 2 ^ 2 else 0) ||| if f 3 then 2 ^ 3 else 0
theorem b4_dec : ∀ m, m < 16 → m = (((0 ||| if kbit m 0 then 2 ^ 0 else 0) ||| if kbit m 1 then 2 ^ 1 else 0) ||| if kbit m 2 then 2 ^ 2 else 0) ||| if kbit m 3 then 2 ^ 3 else 0 := by decide +kernel
theorem b4_of {m : Nat} {f : Nat → Bool} (hm : m < 16) (hf : ∀ v, v < 4 → kbit m v = f v) : m = b4 f := by
  unfold b4
  rw [← hf 0 (by decide), ← hf 1 (by decide), ← hf 2 (by decide), ← hf 3 (by decide)]
  exact b4_dec m hm
section
variable {σ τ σ' τ' : St} {w h gn kn kE kS tl sn d t1 t2 n : Nat} {gr sz wo fo tx sk sf st hg li pb : Nat → Nat} {g : Gr} {P : Nat → Gr} {sh : Nat → Nat → Bool}
theorem s_shutWays (X : SX σ w h sh hg gr kn sz fo) {i : Nat} (hi : i < w * h) : mX11_shutWays (nI i) σ = some (nI (b4 (sh i)), σ) := by
  have h30 := X.1.1
  obtain ⟨m, hm, e, hf⟩ := X.1.2.1 i hi
  unfold mX11_shutWays
  rw [gd_t (ib_nI (by omega) (by decide)), gd_t (ib_nI (by omega) (by decide)), nx_nI (by omega), e, b4_of hm hf]
theorem m_shut_step (Y : MX τ w h kE kS li pb t1 t2 hg gr kn sz fo) {i v s m : Nat} (hi : i < w * h) (hv : v < 4) : mX12_shutWays_4 (m + 1) (nI i) (nI s) (nI v) τ = mX12_shutWays_4 m (nI i) (nI (s ||| if shutA w h kE kS pb t1 t2 i v then 2 ^ v else 0)) (nI (v + 1)) τ := by
  rw [mX12_shutWays_4, li4, if_pos (nI_lt hv (by decide)), (Y.1 (pos_of hi)).R.2.1 i v hi hv, bd_t]
  unfold mX12_shutWays_26
  simp only [lt_t]
  cases shutA w h kE kS pb t1 t2 i v with
  | true => rw [z1_t, if_neg n10, shl1_nI (by omega), or_nI, li1, nI_add, if_pos rfl]
  | false => rw [z1_f, if_pos rfl, li0, or_nI, li1, nI_add]; rfl
theorem m_shutWays (Y : MX τ w h kE kS li pb t1 t2 hg gr kn sz fo) {i : Nat} (hi : i < w * h) : mX12_shutWays (nI i) τ = some (nI (b4 (shutA w h kE kS pb t1 t2 i)), τ) := by
  unfold mX12_shutWays
  rw [show FU = 19995 + 1 + 1 + 1 + 1 + 1 from rfl, li0, m_shut_step Y hi (by decide), m_shut_step Y hi (by decide), m_shut_step Y hi (by decide), m_shut_step Y hi (by decide), mX12_shutWays_4, li4, if_neg (nI_nlt (by decide) (by decide))]
  rfl
theorem m_liesOn (Y : MX τ w h kE kS li pb t1 t2 hg gr kn sz fo) {i : Nat} (hi : i < w * h) : mX12_liesOn (nI i) τ = some (nI (li i), τ) := by
  have M := Y.1 (pos_of hi)
  have h30 := M.1.n30
  obtain ⟨e, hl, hp⟩ := M.2.1 i (by omega)
  unfold mX12_liesOn
  rw [show (31 : Int32) = nI 31 from rfl, nI_add, gd_t (ib_nI (by omega) (by decide)), nx_nI (by omega), e, pk_andN (n := li i + 1048576 * pb i) (by omega) (m := 1048575) 20 (by decide)]
  rw [show (li i + 1048576 * pb i) % 2 ^ 20 = li i by omega]
end
theorem sm_cell : Sm3 Inv mX11_cell mX12_cell := by
  intro x y b σ τ I
  have I0 := I
  obtain ⟨w, h, gn, kn, kE, kS, gr, sz, wo, fo, tl, tx, sn, sk, sf, st, g, d, P, cv, im, is, ig, img, t1, t2⟩ := I
  have X := SX.of cv is ig.1 ig.2.2.1
  have Y := MX.of cv im ig.2.1 ig.2.2.1
  unfold mX11_cell mX12_cell
  rcases CE.or w h x y with ⟨i, c⟩ | c
  · have hi := c.lt
    have h30 := X.1.1
    rw [CE.s X c, CE.m Y c, bd_t, bd_t, if_neg n10, CE.mb Y c, bd_t, if_neg (nI_m1 (by omega)), s_shutWays X hi, m_shutWays Y hi, m_liesOn Y hi]
    obtain ⟨p1, p2, p3, p4, p5⟩ := ig.2.1.2.1 i (by omega)
    obtain ⟨q1, q2, q3, q4, q5, q6⟩ := ig.1.2.2.1 i hi
    have r1 := (is.2.2.2.2.2.2.2.2.1 i hi).2.1
    have r2 := im.2.2.2.2.2.2.2.2.2.1 i (by omega)
    have u1 : (1 : Int32) + nI i = nI (1 + i) := by rw [li1, nI_add]
    have u3 : (61 : Int32) + nI i = nI (61 + i) := by rw [show (61 : Int32) = nI 61 from rfl, nI_add]
    have u4 : (91 : Int32) + nI i = nI (91 + i) := by rw [show (91 : Int32) = nI 91 from rfl, nI_add]
    have u5 : (121 : Int32) + nI i = nI (121 + i) := by rw [show (121 : Int32) = nI 121 from rfl, nI_add]
    rw [show 0 + 1 + i = 1 + i by omega] at p1
    rw [show 0 + 1 + 60 + i = 61 + i by omega] at p3
    rw [show 0 + 1 + 90 + i = 91 + i by omega] at p4
    rw [show 0 + 1 + 120 + i = 121 + i by omega] at p5
    simp only [u1, u3, u4, u5, gd_t (ib_nI (show i < 30 by omega) (by decide)), gd_t (ib_nI (show 1 + i < 5019 by omega) (by decide)), gd_t (ib_nI (show 61 + i < 5019 by omega) (by decide)), gd_t (ib_nI (show 91 + i < 5019 by omega) (by decide)), gd_t (ib_nI (show 121 + i < 5019 by omega) (by decide)), nx_nI (show i < 2 ^ 31 by omega), nx_nI (show 1 + i < 2 ^ 31 by omega), nx_nI (show 61 + i < 2 ^ 31 by omega), nx_nI (show 91 + i < 2 ^ 31 by omega), nx_nI (show 121 + i < 2 ^ 31 by omega), p1, p3, p4, p5, r2, bd_t]
    rw [q1, q3, q4, q5, q6, r1]
    by_cases c0 : b = 0
    · exact ⟨_, σ, τ, by rw [if_pos c0], by rw [if_pos c0], I0⟩
    by_cases c1 : b = 1
    · exact ⟨_, σ, τ, by rw [if_neg c0, if_pos c1], by rw [if_neg c0, if_pos c1], I0⟩
    by_cases c2 : b = 2
    · exact ⟨_, σ, τ, by rw [if_neg c0, if_neg c1, if_pos c2], by rw [if_neg c0, if_neg c1, if_pos c2], I0⟩
    by_cases c3 : b = 3
    · exact ⟨_, σ, τ, by rw [if_neg c0, if_neg c1, if_neg c2, if_pos c3], by rw [if_neg c0, if_neg c1, if_neg c2, if_pos c3], I0⟩
    by_cases c4 : b = 4
    · exact ⟨_, σ, τ, by rw [if_neg c0, if_neg c1, if_neg c2, if_neg c3, if_pos c4], by rw [if_neg c0, if_neg c1, if_neg c2, if_neg c3, if_pos c4], I0⟩
    by_cases c5 : b = 5
    · exact ⟨_, σ, τ, by rw [if_neg c0, if_neg c1, if_neg c2, if_neg c3, if_neg c4, if_pos c5], by rw [if_neg c0, if_neg c1, if_neg c2, if_neg c3, if_neg c4, if_pos c5], I0⟩
    by_cases c6 : b = 6
    · exact ⟨_, σ, τ, by rw [if_neg c0, if_neg c1, if_neg c2, if_neg c3, if_neg c4, if_neg c5, if_pos c6], by rw [if_neg c0, if_neg c1, if_neg c2, if_neg c3, if_neg c4, if_neg c5, if_pos c6], I0⟩
    · exact ⟨_, σ, τ, by rw [if_neg c0, if_neg c1, if_neg c2, if_neg c3, if_neg c4, if_neg c5, if_neg c6], by rw [if_neg c0, if_neg c1, if_neg c2, if_neg c3, if_neg c4, if_neg c5, if_neg c6], I0⟩
  · rw [CE.s0 X c, CE.mn Y c, bd_t, bd_t, if_pos rfl, if_pos rfl]
    exact ⟨_, σ, τ, rfl, rfl, I0⟩
theorem m_in2 (v : Int32) (τ : St) : mX12_in v.toInt64 0 2 τ = some (z1 (decide (¬ v < 0 ∧ ¬ 2 < v)), τ) := m_in v 0 2 τ
theorem m_in1 (v : Int32) (τ : St) : mX12_in v.toInt64 0 1 τ = some (z1 (decide (¬ v < 0 ∧ ¬ 1 < v)), τ) := m_in v 0 1 τ
theorem m_in3 (v : Int32) (τ : St) : mX12_in v.toInt64 0 3 τ = some (z1 (decide (¬ v < 0 ∧ ¬ 3 < v)), τ) := m_in v 0 3 τ
theorem m_in5 (v : Int32) (τ : St) : mX12_in v.toInt64 0 5 τ = some (z1 (decide (¬ v < 0 ∧ ¬ 5 < v)), τ) := m_in v 0 5 τ
theorem m_in9 (v : Int32) (τ : St) : mX12_in v.toInt64 0 9 τ = some (z1 (decide (¬ v < 0 ∧ ¬ 9 < v)), τ) := m_in v 0 9 τ
theorem wh3 {v : Int32} : (¬ v < 0 ∧ ¬ 2 < v) ↔ (v = 0 ∨ v = 1 ∨ v = 2) := by
  constructor
  · intro q
    obtain ⟨j, hj, rfl⟩ := (nlt_pred (x := v) (w := 3) (by decide)).mp q
    rcases (show j = 0 ∨ j = 1 ∨ j = 2 by omega) with rfl | rfl | rfl
    · exact Or.inl rfl
    · exact Or.inr (Or.inl rfl)
    · exact Or.inr (Or.inr rfl)
  · rintro (rfl | rfl | rfl) <;> decide
theorem wh2 {v : Int32} : (¬ v < 0 ∧ ¬ 1 < v) ↔ (v = 0 ∨ v = 1) := by
  constructor
  · intro q
    obtain ⟨j, hj, rfl⟩ := (nlt_pred (x := v) (w := 2) (by decide)).mp q
    rcases (show j = 0 ∨ j = 1 by omega) with rfl | rfl
    · exact Or.inl rfl
    · exact Or.inr rfl
  · rintro (rfl | rfl) <;> decide
theorem sm_end : Sm4 Inv mX11_end mX12_end := by
  intro a x y b σ τ I
  have I0 := I
  obtain ⟨w, h, gn, kn, kE, kS, gr, sz, wo, fo, tl, tx, sn, sk, sf, st, g, d, P, cv, im, is, ig, img, t1, t2⟩ := I
  have X := SX.of cv is ig.1 ig.2.2.1
  have Y := MX.of cv im ig.2.1 ig.2.2.1
  unfold mX11_end mX12_end
  rcases KIK.or kn a with ⟨k, ck⟩ | ck
  · rw [KIK.m Y ck, bd_t, if_neg n10]
    rcases CE.or w h x y with ⟨i, c⟩ | c
    · have hi := c.lt
      have h30 := X.1.1
      rw [CE.s X c, bd_t, KIK.s X ck, bd_t, if_neg n10, if_neg (nI_m1 (by omega)), CE.m Y c, bd_t, if_neg n10, m_in2, bd_t]
      by_cases cb : ¬ b < 0 ∧ ¬ 2 < b
      · rw [if_neg cb.1, if_neg cb.2, decide_eq_true cb, z1_t, if_neg n10, CE.mb Y c, bd_t]
        obtain ⟨hk, rfl⟩ := ck
        obtain ⟨σ', e, e0, e1, e2, e3, -, e6⟩ := s_goAs X (r := 59) (by omega) hk hi
        obtain ⟨τ', f, f0, f1, f2, q⟩ := m_rollKind Y hk hi
        have p : SQu σ σ' := fun a b h1 h2 => e6 a b h1 h2
        have l := X.lt (size := sz k) (f0 := fo k) hi
        rw [e, f, bd_t, bd_t, s_endCode (X.q p) e0 e1 l, m_toldEnd (Y.q q) f0 l, bd_t, bd_t, e2, e3, f1, f2]
        by_cases c0 : b = 0
        · exact ⟨_, σ', τ', by rw [if_pos c0], by rw [if_pos c0], I0.q p q⟩
        by_cases c1 : b = 1
        · exact ⟨_, σ', τ', by rw [if_neg c0, if_pos c1], by rw [if_neg c0, if_pos c1], I0.q p q⟩
        · exact ⟨_, σ', τ', by rw [if_neg c0, if_neg c1], by rw [if_neg c0, if_neg c1], I0.q p q⟩
      · rw [decide_eq_false cb, z1_f, if_pos rfl]
        refine ⟨-1, σ, τ, ?_, rfl, I0⟩
        by_cases c0 : b < 0
        · rw [if_pos c0]
        · rw [if_neg c0, if_pos (Classical.byContradiction fun q => cb ⟨c0, q⟩)]
    · rw [CE.s0 X c, bd_t, KIK.s X ck, bd_t, if_neg n10, if_pos rfl, CE.mn Y c, bd_t, if_pos rfl]
      exact ⟨_, σ, τ, rfl, rfl, I0⟩
  · rw [KIK.mn Y ck, bd_t, if_pos rfl]
    rcases CE.or w h x y with ⟨i, c⟩ | c
    · rw [CE.s X c, bd_t, KIK.s0 X ck, bd_t, if_pos rfl]
      exact ⟨_, σ, τ, rfl, rfl, I0⟩
    · rw [CE.s0 X c, bd_t, KIK.s0 X ck, bd_t, if_pos rfl]
      exact ⟨_, σ, τ, rfl, rfl, I0⟩
/-- the cells of which something holds, as bits -/
def orF (f : Nat → Bool) : Nat → Nat → Nat → Nat
  | acc, _, 0 => acc
  | acc, i, m + 1 => orF f (acc ||| if f i then 2 ^ i else 0) (i + 1) m
theorem orF_ext {f f' : Nat → Bool} : ∀ (m acc i : Nat), (∀ j, i ≤ j → j < i + m → f j = f' j) → orF f acc i m = orF f' acc i m
  | 0, _, _, _ => rfl
  | m + 1, acc, i, h => by
    unfold orF
    rw [h i (Nat.le_refl _) (by omega)]
    exact orF_ext m _ _ (fun j h1 h2 => h j (by omega) (by omega))
section
variable {σ τ σ' τ' : St} {w h gn kn kE kS tl sn d t1 t2 n : Nat} {gr sz wo fo tx sk sf st hg li pb : Nat → Nat} {g : Gr} {P : Nat → Gr} {sh : Nat → Nat → Bool}
theorem s_doorBits_loop {k dd : Nat} (hk : k < kn) (hd : dd < 2 ^ 31) : ∀ (m N i acc : Nat) (σ : St), SX σ w h sh hg gr kn sz fo → i + m = w * h → ∃ σ', mX11_doorBits_5 (N + m + 1) (nI k) (nI dd) (nI acc) (nI i) σ = some (nI (orF (fun j => (rl sh hg gr w (sz k) (fo k) j).1 == dd) acc i m), σ') ∧ SQu σ σ'
  | 0, N, i, acc, σ, X, e => by
    have h30 := X.1.1
    refine ⟨σ, ?_, SQu.rfl' σ⟩
    rw [show N + 0 + 1 = N + 1 from rfl, mX11_doorBits_5, X.2.2.1, if_neg (nI_nlt (by omega) (by omega))]
    rfl
  | m + 1, N, i, acc, σ, X, e => by
    have h30 := X.1.1
    obtain ⟨σ1, e1, q1⟩ := s_endsAt X hk (i := i) (by omega) hd
    rw [show N + (m + 1) + 1 = (N + m + 1) + 1 from rfl, mX11_doorBits_5, X.2.2.1, if_pos (nI_lt (by omega) (by omega)), e1, bd_t]
    obtain ⟨σ2, e2, q2⟩ := s_doorBits_loop hk hd m N (i + 1) (acc ||| if ((rl sh hg gr w (sz k) (fo k) i).1 == dd) = true then 2 ^ i else 0) σ1 (X.q q1) (by omega)
    refine ⟨σ2, ?_, q1.tr q2⟩
    unfold mX11_doorBits_35 orF
    simp only [lt_t, li1, nI_add]
    cases hb : (rl sh hg gr w (sz k) (fo k) i).1 == dd with
    | true =>
      rw [hb, if_pos rfl] at e2
      rw [z1_t, if_neg n10, ← li1, shl1_nI (by omega), or_nI, if_pos rfl]
      exact e2
    | false =>
      rw [hb, if_neg Bool.false_ne_true, Nat.or_zero] at e2
      rw [z1_f, if_pos rfl, if_neg Bool.false_ne_true, Nat.or_zero]
      exact e2
theorem s_doorBits (X : SX σ w h sh hg gr kn sz fo) {k dd : Nat} (hk : k < kn) (hd : dd < 2 ^ 31) : ∃ σ', mX11_doorBits (nI k) (nI dd) σ = some (nI (orF (fun j => (rl sh hg gr w (sz k) (fo k) j).1 == dd) 0 0 (w * h)), σ') ∧ SQu σ σ' := by
  have h30 := X.1.1
  have L := s_doorBits_loop hk hd (w * h) (19999 - w * h) 0 0 σ X (by omega)
  rw [show 19999 - w * h + w * h + 1 = FU by unfold FU; omega] at L
  exact L
theorem m_cells (Y : MX τ w h kE kS li pb t1 t2 hg gr kn sz fo) : mX12_cells τ = some (nI (w * h), τ) := by
  unfold mX12_cells
  rw [Y.2.1, Y.2.2.1, pk_mul]
theorem MX.n30 (Y : MX τ w h kE kS li pb t1 t2 hg gr kn sz fo) : w * h ≤ 30 := Nat.mul_le_mul Y.2.2.2.1 Y.2.2.2.2.1
theorem m_doorsOf_loop {k dd : Nat} (hk : k < kn) (hd : dd < 2 ^ 31) : ∀ (m N i acc : Nat) (τ : St), MX τ w h kE kS li pb t1 t2 hg gr kn sz fo → i + m = w * h → ∃ τ', mX12_doorsOf_5 (N + m + 1) (nI k) (nI dd) (nI acc) (nI i) τ = some (nI (orF (fun j => (rl (shutA w h kE kS pb t1 t2) hg gr w (sz k) (fo k) j).1 == dd) acc i m), τ') ∧ MQu τ τ'
  | 0, N, i, acc, τ, Y, e => by
    have h30 := Y.n30
    refine ⟨τ, ?_, MQu.rfl' τ⟩
    rw [show N + 0 + 1 = N + 1 from rfl, mX12_doorsOf_5, m_cells Y, bd_t, if_neg (nI_nlt (by omega) (by omega))]
    rfl
  | m + 1, N, i, acc, τ, Y, e => by
    have h30 := Y.n30
    obtain ⟨τ1, e1, q1⟩ := m_endOf Y hk (i := i) (by omega)
    have l := Y.lt (size := sz k) (f0 := fo k) (i := i) (by omega)
    rw [show N + (m + 1) + 1 = (N + m + 1) + 1 from rfl, mX12_doorsOf_5, m_cells Y, bd_t, if_pos (nI_lt (by omega) (by omega)), e1, bd_t]
    obtain ⟨τ2, e2, q2⟩ := m_doorsOf_loop hk hd m N (i + 1) (acc ||| if ((rl (shutA w h kE kS pb t1 t2) hg gr w (sz k) (fo k) i).1 == dd) = true then 2 ^ i else 0) τ1 (Y.q q1) (by omega)
    refine ⟨τ2, ?_, q1.tr q2⟩
    unfold mX12_doorsOf_34 orF
    simp only [lt_t, nI_inj (show (rl (shutA w h kE kS pb t1 t2) hg gr w (sz k) (fo k) i).1 < 2 ^ 31 by omega) hd]
    by_cases hb : (rl (shutA w h kE kS pb t1 t2) hg gr w (sz k) (fo k) i).1 = dd
    · rw [beq_iff_eq.mpr hb, if_pos rfl] at e2
      rw [if_pos hb, shl1_nI (by omega), or_nI, li1, nI_add, beq_iff_eq.mpr hb, if_pos rfl]
      exact e2
    · rw [beq_eq_false_iff_ne.mpr hb, if_neg Bool.false_ne_true] at e2
      rw [if_neg hb, li0, or_nI, li1, nI_add, beq_eq_false_iff_ne.mpr hb, if_neg Bool.false_ne_true]
      exact e2
theorem m_doorsOf (Y : MX τ w h kE kS li pb t1 t2 hg gr kn sz fo) {k dd : Nat} (hk : k < kn) (hd : dd < 2 ^ 31) : ∃ τ', mX12_doorsOf (nI k) (nI dd) τ = some (nI (orF (fun j => (rl (shutA w h kE kS pb t1 t2) hg gr w (sz k) (fo k) j).1 == dd) 0 0 (w * h)), τ') ∧ MQu τ τ' := by
  have h30 := Y.n30
  have L := m_doorsOf_loop hk hd (w * h) (19999 - w * h) 0 0 τ Y (by omega)
  rw [show 19999 - w * h + w * h + 1 = FU by unfold FU; omega] at L
  exact L
end
theorem sm_doors : Sm3 Inv mX11_doors mX12_doors := by
  intro a x y σ τ I
  have I0 := I
  obtain ⟨w, h, gn, kn, kE, kS, gr, sz, wo, fo, tl, tx, sn, sk, sf, st, g, d, P, cv, im, is, ig, img, t1, t2⟩ := I
  have X := SX.of cv is ig.1 ig.2.2.1
  have Y := MX.of cv im ig.2.1 ig.2.2.1
  unfold mX11_doors mX12_doors
  rcases KIK.or kn a with ⟨k, ck⟩ | ck
  · rw [KIK.m Y ck, bd_t, if_neg n10]
    rcases CE.or w h x y with ⟨i, c⟩ | c
    · have hi := c.lt
      have h30 := X.1.1
      rw [CE.s X c, bd_t, KIK.s X ck, bd_t, if_neg n10, if_neg (nI_m1 (by omega)), CE.m Y c, bd_t, if_neg n10, CE.mb Y c, bd_t]
      obtain ⟨hk, rfl⟩ := ck
      obtain ⟨σ', e, p⟩ := s_doorBits X hk (dd := i) (by omega)
      obtain ⟨τ', f, q⟩ := m_doorsOf Y hk (dd := i) (by omega)
      exact ⟨_, σ', τ', by rw [e, bd_t], by rw [f, bd_t], I0.q p q⟩
    · rw [CE.s0 X c, bd_t, KIK.s X ck, bd_t, if_neg n10, if_pos rfl, CE.mn Y c, bd_t, if_pos rfl]
      exact ⟨_, σ, τ, rfl, rfl, I0⟩
  · rw [KIK.mn Y ck, bd_t, if_pos rfl]
    rcases CE.or w h x y with ⟨i, c⟩ | c
    · rw [CE.s X c, bd_t, KIK.s0 X ck, bd_t, if_pos rfl]
      exact ⟨_, σ, τ, rfl, rfl, I0⟩
    · rw [CE.s0 X c, bd_t, KIK.s0 X ck, bd_t, if_pos rfl]
      exact ⟨_, σ, τ, rfl, rfl, I0⟩

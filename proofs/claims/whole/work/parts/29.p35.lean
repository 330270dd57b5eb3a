/-! pure: planks, the reference -/
def MQx (τ τ' : St) : Prop := ∀ i j, ¬ (i = 0 ∧ 30 ≤ j ∧ j ≤ 34) → τ' i j = τ i j
theorem MQx.rfl' (τ : St) : MQx τ τ := fun _ _ _ => rfl
theorem MQx.tr {a b c : St} (h : MQx a b) (k : MQx b c) : MQx a c := fun i j h1 => by rw [k i j h1, h i j h1]
theorem MQu.x {a b : St} (h : MQu a b) : MQx a b := fun i j h1 => h i j (by omega)
def fre (w h kE kS : Nat) (pb : Nat → Nat) (s : Nat) : Bool := !edge w h (s / 2) (if s % 2 = 0 then 1 else 2) && (!kerb kE kS s && !plk pb s)
section
variable {σ τ σ' τ' : St} {w h gn kn kE kS tl sn d t1 t2 n : Nat} {gr sz wo fo tx sk sf st hg li pb : Nat → Nat} {g : Gr} {P : Nat → Gr} {sh : Nat → Nat → Bool}
theorem MX.tt (Y : MX τ w h kE kS li pb t1 t2 hg gr kn sz fo) (ht : MQx τ τ') {a b : Nat} (h1 : τ' 0 30 = tr a) (h2 : τ' 0 31 = tr b) (ha : a ≤ 99) (hb : b ≤ 99) : MX τ' w h kE kS li pb a b hg gr kn sz fo := by
  obtain ⟨r, x1, x2, x3, x4, x5, x6, x7⟩ := Y
  refine ⟨fun hw => ?_, by rw [ht _ _ (by omega)]; exact x1, by rw [ht _ _ (by omega)]; exact x2, x3, x4, x5, by rw [ht _ _ (by omega)]; exact x6, fun k hk => ?_⟩
  · obtain ⟨⟨c1, c2, c3, c4, c5⟩, p, -, g1, g2⟩ := r hw
    refine ⟨⟨?_, ?_, ?_, ?_, c5⟩, fun i hi => ?_, ⟨h1, h2, ha, hb⟩, fun i hi => ?_, fun i hi => ?_⟩
    · rw [ht _ _ (by omega)]; exact c1
    · rw [ht _ _ (by omega)]; exact c2
    · rw [ht _ _ (by omega)]; exact c3
    · rw [ht _ _ (by omega)]; exact c4
    · rw [ht _ _ (by omega)]; exact p i hi
    · rw [ht _ _ (by omega)]; exact g1 i hi
    · rw [ht _ _ (by omega)]; exact g2 i hi
  · rw [ht _ _ (by omega), ht _ _ (by omega)]; exact x7 k hk
theorem m_isFree (Y : MX τ w h kE kS li pb t1 t2 hg gr kn sz fo) {s : Nat} (hs : s < 2 * (w * h)) : mX12_isFree (nI s) τ = some (z1 (fre w h kE kS pb s), τ) := by
  have h30 := Y.n30
  have hc : s / 2 < w * h := by omega
  have M := Y.1 (pos_of hc)
  have F : ∀ v, v < 4 → mX12_isFree_11 (nI s) (nI v) τ = some (z1 (!edge w h (s / 2) v && (!kerb kE kS s && !plk pb s)), τ) := by
    intro v hv
    unfold mX12_isFree_11
    rw [li2, div_nI (by omega) (by omega) (by omega), m_edge M.1 hc hv, bd_t, m_isKerb M.1 (by omega), bd_t]
    cases edge w h (s / 2) v with
    | true => rw [z1_t, if_neg n10]; rfl
    | false =>
      rw [z1_f, if_pos rfl]
      cases kerb kE kS s with
      | true => rw [z1_t, if_neg n10]; rfl
      | false =>
        rw [z1_f, if_pos rfl, m_isPlank M.2.1 (by omega), bd_t]
        cases plk pb s with
        | true => rw [z1_t, if_neg n10]; rfl
        | false => rw [z1_f, if_pos rfl]; rfl
  unfold mX12_isFree fre
  rw [li2, rem_nI (by omega) (by omega) (by omega)]
  by_cases c : s % 2 = 0
  · rw [if_pos (by rw [c]; rfl), if_pos c]; exact F 1 (by decide)
  · rw [if_neg (nI_nz (by omega) (by omega)), if_neg c]; exact F 2 (by decide)
/-- where the coin ends with two sides more shut -/
def E2 (w h kE kS : Nat) (pb hg gr : Nat → Nat) (size f0 i a b : Nat) : Nat := (rl (shutA w h kE kS pb a b) hg gr w size f0 i).1
theorem m_try1 {k i dd : Nat} (hk : k < kn) (hi : i < w * h) (hd : dd < 2 ^ 31) : ∀ (m N s : Nat) (τ : St) (t1 t2 : Nat), MX τ w h kE kS li pb t1 t2 hg gr kn sz fo → s + m = 2 * (w * h) → ∃ τ', mX12_triesPlanks_3 (N + m + 1) (nI k) (nI i) (nI dd) 1 (nI s) τ = some (z1 (fs (fun s => ift (fre w h kE kS pb s && (E2 w h kE kS pb hg gr (sz k) (fo k) i s 99 == dd)) s) s m).isSome, τ') ∧ MQx τ τ' ∧ (∀ x, fs (fun s => ift (fre w h kE kS pb s && (E2 w h kE kS pb hg gr (sz k) (fo k) i s 99 == dd)) s) s m = some x → τ' 0 30 = nI x) ∧ ∃ a b, MX τ' w h kE kS li pb a b hg gr kn sz fo
  | 0, N, s, τ, t1, t2, Y, e => by
    have h30 := Y.n30
    refine ⟨τ, ?_, MQx.rfl' τ, fun x hx => (by cases hx), t1, t2, Y⟩
    rw [show N + 0 + 1 = N + 1 from rfl, mX12_triesPlanks_3, m_cells Y, bd_t, li2, pk_mul, if_neg (nI_nlt (by omega) (by omega))]
    rfl
  | m + 1, N, s, τ, t1, t2, Y, e => by
    have h30 := Y.n30
    rw [show N + (m + 1) + 1 = (N + m + 1) + 1 from rfl, mX12_triesPlanks_3, m_cells Y, bd_t, li2, pk_mul, if_pos (nI_lt (by omega) (by omega)), m_isFree Y (by omega), bd_t]
    cases hf : fre w h kE kS pb s with
    | false =>
      obtain ⟨τ2, e2, q2, r2, x2⟩ := m_try1 hk hi hd m N (s + 1) τ t1 t2 Y (by omega)
      have ff : fs (fun s => ift (fre w h kE kS pb s && (E2 w h kE kS pb hg gr (sz k) (fo k) i s 99 == dd)) s) s (m + 1) = fs (fun s => ift (fre w h kE kS pb s && (E2 w h kE kS pb hg gr (sz k) (fo k) i s 99 == dd)) s) (s + 1) m := fs_n (by rw [hf]; rfl)
      rw [ff]
      refine ⟨τ2, ?_, q2, r2, x2⟩
      rw [z1_f, if_pos rfl, mX12_triesPlanks_123, lt_t, li1, nI_add]
      exact e2
    | true =>
      obtain ⟨τ1, hτ1⟩ : ∃ τ1, τ1 = s_up (s_up τ 0 30 (nI s)) 0 31 (-9) := ⟨_, rfl⟩
      have Q1 : MQx τ τ1 := fun a b h1 => by rw [hτ1, su_o (by omega), su_o (by omega)]
      have t30 : τ1 0 30 = tr s := by rw [hτ1, su_o (by omega), su_s, tr_lt (by omega)]
      have t31 : τ1 0 31 = tr 99 := by rw [hτ1, su_s]; rfl
      have Y1 := Y.tt Q1 t30 t31 (by omega) (by omega)
      obtain ⟨τ3, e3, q3⟩ := m_endOf Y1 hk hi
      have l := Y1.lt (size := sz k) (f0 := fo k) hi
      rw [z1_t, if_neg n10, lt_t, lt_t, ← hτ1, if_pos rfl, e3, bd_t]
      simp only [nI_inj (show (rl (shutA w h kE kS pb s 99) hg gr w (sz k) (fo k) i).1 < 2 ^ 31 by omega) hd]
      by_cases c : (rl (shutA w h kE kS pb s 99) hg gr w (sz k) (fo k) i).1 = dd
      · have ff : fs (fun s => ift (fre w h kE kS pb s && (E2 w h kE kS pb hg gr (sz k) (fo k) i s 99 == dd)) s) s (m + 1) = some s := fs_s (by rw [hf, show E2 w h kE kS pb hg gr (sz k) (fo k) i s 99 = dd from c]; simp [ift])
        rw [ff, if_pos c]
        refine ⟨τ3, rfl, Q1.tr q3.x, fun x hx => ?_, s, 99, Y1.q q3⟩
        cases hx
        rw [q3 0 30 (by omega), t30, tr_lt (by omega)]
      · have ff : fs (fun s => ift (fre w h kE kS pb s && (E2 w h kE kS pb hg gr (sz k) (fo k) i s 99 == dd)) s) s (m + 1) = fs (fun s => ift (fre w h kE kS pb s && (E2 w h kE kS pb hg gr (sz k) (fo k) i s 99 == dd)) s) (s + 1) m := fs_n (by rw [hf, beq_eq_false_iff_ne.mpr (show E2 w h kE kS pb hg gr (sz k) (fo k) i s 99 ≠ dd from c)]; rfl)
        obtain ⟨τ2, e2, q2, r2, x2⟩ := m_try1 hk hi hd m N (s + 1) τ3 s 99 (Y1.q q3) (by omega)
        rw [ff, if_neg c]
        refine ⟨τ2, ?_, (Q1.tr q3.x).tr q2, r2, x2⟩
        unfold mX12_triesPlanks_53
        rw [lt_t, show FU = 19999 + 1 from rfl, mX12_triesPlanks_59, m_cells (Y1.q q3), bd_t, if_neg (show ¬ (1 : Int32) = 2 by decide)]
        unfold mX12_triesPlanks_123
        rw [lt_t, li1, nI_add]
        have ee : ∀ (x : Option (Int32 × St)) (c : Prop) [Decidable c], (if c then x else x) = x := fun x c _ => by split <;> rfl
        rw [ee]
        exact e2
def rsK (o : Option Nat) (τ : St) (k : Option (Int32 × St)) : Option (Int32 × St) := match o with
  | some _ => some (1, τ)
  | none => k
theorem m_try59 {kk : Int32 → Int32 → Int32 → Int32 → Int32 → St → Option (Int32 × St)} {k i dd s : Nat} (hk : k < kn) (hi : i < w * h) (hd : dd < 2 ^ 31) (hs : s < 60) : ∀ (m N t : Nat) (τ : St) (t2 : Nat), MX τ w h kE kS li pb s t2 hg gr kn sz fo → (t + m = 2 * (w * h) ∨ (m = 0 ∧ 2 * (w * h) ≤ t ∧ t < 99)) → ∃ τ', mX12_triesPlanks_59 kk (N + m + 1) (nI k) (nI i) (nI dd) 2 (nI s) (nI t) τ = rsK (fs (fun t => ift (fre w h kE kS pb t && (E2 w h kE kS pb hg gr (sz k) (fo k) i s t == dd)) (s * 100 + t)) t m) τ' (kk (nI k) (nI i) (nI dd) 2 (nI s) τ') ∧ MQx τ τ' ∧ (∀ x, fs (fun t => ift (fre w h kE kS pb t && (E2 w h kE kS pb hg gr (sz k) (fo k) i s t == dd)) (s * 100 + t)) t m = some x → τ' 0 30 = nI (x / 100) ∧ τ' 0 31 = nI (x % 100) ∧ x / 100 < 60 ∧ x % 100 < 60) ∧ ∃ b, MX τ' w h kE kS li pb s b hg gr kn sz fo
  | 0, N, t, τ, t2, Y, e => by
    have h30 := Y.n30
    refine ⟨τ, ?_, MQx.rfl' τ, fun x hx => (by cases hx), t2, Y⟩
    rw [show N + 0 + 1 = N + 1 from rfl, mX12_triesPlanks_59, m_cells Y, bd_t, show (2 : Int32) * nI (w * h) = nI (2 * (w * h)) by rw [li2, pk_mul], if_neg (nI_nlt (by omega) (by omega))]
    rfl
  | m + 1, N, t, τ, t2, Y, e => by
    have h30 := Y.n30
    rw [show N + (m + 1) + 1 = (N + m + 1) + 1 from rfl, mX12_triesPlanks_59, m_cells Y, bd_t, show (2 : Int32) * nI (w * h) = nI (2 * (w * h)) by rw [li2, pk_mul], if_pos (nI_lt (by omega) (by omega)), if_pos rfl, m_isFree Y (by omega), bd_t]
    have M0 := Y.1 (pos_of hi)
    unfold mX12_triesPlanks_93 mX12_triesPlanks_117
    cases hf : fre w h kE kS pb t with
    | false =>
      have Q1 : MQx τ (s_up τ 0 31 (-9)) := fun a b h1 => su_o (by omega)
      have Y1 := Y.tt Q1 (a := s) (b := 99) (by rw [su_o (by omega)]; exact M0.2.2.1.1) (by rw [su_s]; rfl) (by omega) (by omega)
      obtain ⟨τ2, e2, q2, r2, x2⟩ := m_try59 (kk := kk) hk hi hd hs m N (t + 1) _ 99 Y1 (by omega)
      have ff : fs (fun t => ift (fre w h kE kS pb t && (E2 w h kE kS pb hg gr (sz k) (fo k) i s t == dd)) (s * 100 + t)) t (m + 1) = fs (fun t => ift (fre w h kE kS pb t && (E2 w h kE kS pb hg gr (sz k) (fo k) i s t == dd)) (s * 100 + t)) (t + 1) m := fs_n (by rw [hf]; rfl)
      rw [ff]
      refine ⟨τ2, ?_, Q1.tr q2, r2, x2⟩
      rw [z1_f, if_pos rfl, lt_t, su_s, if_pos rfl, lt_t, li1, nI_add]
      exact e2
    | true =>
      have Q1 : MQx τ (s_up τ 0 31 (nI t)) := fun a b h1 => su_o (by omega)
      have Y1 := Y.tt Q1 (a := s) (b := t) (by rw [su_o (by omega)]; exact M0.2.2.1.1) (by rw [su_s, tr_lt (by omega)]) (by omega) (by omega)
      obtain ⟨τ3, e3, q3⟩ := m_endOf Y1 hk hi
      have l := Y1.lt (size := sz k) (f0 := fo k) hi
      rw [z1_t, if_neg n10, lt_t, su_s, if_neg (nI_m9 (by omega)), e3, bd_t]
      simp only [nI_inj (show (rl (shutA w h kE kS pb s t) hg gr w (sz k) (fo k) i).1 < 2 ^ 31 by omega) hd]
      by_cases c : (rl (shutA w h kE kS pb s t) hg gr w (sz k) (fo k) i).1 = dd
      · have ff : fs (fun t => ift (fre w h kE kS pb t && (E2 w h kE kS pb hg gr (sz k) (fo k) i s t == dd)) (s * 100 + t)) t (m + 1) = some (s * 100 + t) := fs_s (by rw [hf, show E2 w h kE kS pb hg gr (sz k) (fo k) i s t = dd from c]; simp [ift])
        rw [ff, if_pos c]
        refine ⟨τ3, rfl, Q1.tr q3.x, fun x hx => ?_, t, Y1.q q3⟩
        cases hx
        refine ⟨?_, ?_, by omega, by omega⟩
        · rw [q3 0 30 (by omega), su_o (by omega), M0.2.2.1.1, tr_lt (by omega)]
          congr 1
          omega
        · rw [q3 0 31 (by omega), su_s]
          congr 1
          omega
      · have ff : fs (fun t => ift (fre w h kE kS pb t && (E2 w h kE kS pb hg gr (sz k) (fo k) i s t == dd)) (s * 100 + t)) t (m + 1) = fs (fun t => ift (fre w h kE kS pb t && (E2 w h kE kS pb hg gr (sz k) (fo k) i s t == dd)) (s * 100 + t)) (t + 1) m := fs_n (by rw [hf, beq_eq_false_iff_ne.mpr (show E2 w h kE kS pb hg gr (sz k) (fo k) i s t ≠ dd from c)]; rfl)
        obtain ⟨τ2, e2, q2, r2, x2⟩ := m_try59 (kk := kk) hk hi hd hs m N (t + 1) τ3 t (Y1.q q3) (by omega)
        rw [ff, if_neg c]
        refine ⟨τ2, ?_, (Q1.tr q3.x).tr q2, r2, x2⟩
        rw [lt_t, li1, nI_add]
        exact e2
theorem m_try2 {k i dd : Nat} (hk : k < kn) (hi : i < w * h) (hd : dd < 2 ^ 31) : ∀ (m N s : Nat) (τ : St) (t1 t2 : Nat), MX τ w h kE kS li pb t1 t2 hg gr kn sz fo → s + m = 2 * (w * h) → ∃ τ', mX12_triesPlanks_3 (N + m + 1) (nI k) (nI i) (nI dd) 2 (nI s) τ = some (z1 (fs (M2 (fre w h kE kS pb) (fun a b => E2 w h kE kS pb hg gr (sz k) (fo k) i a b == dd) (2 * (w * h))) s m).isSome, τ') ∧ MQx τ τ' ∧ (∀ x, fs (M2 (fre w h kE kS pb) (fun a b => E2 w h kE kS pb hg gr (sz k) (fo k) i a b == dd) (2 * (w * h))) s m = some x → τ' 0 30 = nI (x / 100) ∧ τ' 0 31 = nI (x % 100) ∧ x / 100 < 60 ∧ x % 100 < 60) ∧ ∃ a b, MX τ' w h kE kS li pb a b hg gr kn sz fo
  | 0, N, s, τ, t1, t2, Y, e => by
    have h30 := Y.n30
    refine ⟨τ, ?_, MQx.rfl' τ, fun x hx => (by cases hx), t1, t2, Y⟩
    rw [show N + 0 + 1 = N + 1 from rfl, mX12_triesPlanks_3, m_cells Y, bd_t, show (2 : Int32) * nI (w * h) = nI (2 * (w * h)) by rw [li2, pk_mul], if_neg (nI_nlt (by omega) (by omega))]
    rfl
  | m + 1, N, s, τ, t1, t2, Y, e => by
    have h30 := Y.n30
    rw [show N + (m + 1) + 1 = (N + m + 1) + 1 from rfl, mX12_triesPlanks_3, m_cells Y, bd_t, show (2 : Int32) * nI (w * h) = nI (2 * (w * h)) by rw [li2, pk_mul], if_pos (nI_lt (by omega) (by omega)), m_isFree Y (by omega), bd_t]
    cases hf : fre w h kE kS pb s with
    | false =>
      obtain ⟨τ2, e2, q2, r2, x2⟩ := m_try2 hk hi hd m N (s + 1) τ t1 t2 Y (by omega)
      have ff : fs (M2 (fre w h kE kS pb) (fun a b => E2 w h kE kS pb hg gr (sz k) (fo k) i a b == dd) (2 * (w * h))) s (m + 1) = fs (M2 (fre w h kE kS pb) (fun a b => E2 w h kE kS pb hg gr (sz k) (fo k) i a b == dd) (2 * (w * h))) (s + 1) m := fs_n (by unfold M2; rw [hf]; rfl)
      rw [ff]
      refine ⟨τ2, ?_, q2, r2, x2⟩
      rw [z1_f, if_pos rfl, mX12_triesPlanks_123, lt_t, li1, nI_add]
      exact e2
    | true =>
      obtain ⟨τ1, hτ1⟩ : ∃ τ1, τ1 = s_up (s_up τ 0 30 (nI s)) 0 31 (-9) := ⟨_, rfl⟩
      have Q1 : MQx τ τ1 := fun a b h1 => by rw [hτ1, su_o (by omega), su_o (by omega)]
      have t30 : τ1 0 30 = tr s := by rw [hτ1, su_o (by omega), su_s, tr_lt (by omega)]
      have t31 : τ1 0 31 = tr 99 := by rw [hτ1, su_s]; rfl
      have Y1 := Y.tt Q1 t30 t31 (by omega) (by omega)
      obtain ⟨τ3, e3, q3, r3, b3, x3⟩ := m_try59 (kk := mX12_triesPlanks_123 (mX12_triesPlanks_3 (N + m + 1))) hk hi hd (show s < 60 by omega) (2 * (w * h) - (s + 1)) (19999 - (2 * (w * h) - (s + 1))) (s + 1) τ1 99 Y1 (by omega)
      rw [show 19999 - (2 * (w * h) - (s + 1)) + (2 * (w * h) - (s + 1)) + 1 = FU by unfold FU; omega] at e3
      have m2 : M2 (fre w h kE kS pb) (fun a b => E2 w h kE kS pb hg gr (sz k) (fo k) i a b == dd) (2 * (w * h)) s = fs (fun t => ift (fre w h kE kS pb t && (E2 w h kE kS pb hg gr (sz k) (fo k) i s t == dd)) (s * 100 + t)) (s + 1) (2 * (w * h) - (s + 1)) := by unfold M2; rw [hf]; rfl
      rw [← m2] at e3 r3
      rw [z1_t, if_neg n10, lt_t, lt_t, ← hτ1, if_neg (show ¬ (2 : Int32) = 1 by decide)]
      unfold mX12_triesPlanks_53
      rw [lt_t, li1, nI_add, e3]
      cases hm : M2 (fre w h kE kS pb) (fun a b => E2 w h kE kS pb hg gr (sz k) (fo k) i a b == dd) (2 * (w * h)) s with
      | some x =>
        rw [fs_s hm]
        exact ⟨τ3, rfl, Q1.tr q3, fun y hy => by cases hy; exact r3 x hm, s, b3, x3⟩
      | none =>
        rw [fs_n hm]
        obtain ⟨τ2, e2, q2, r2, x2⟩ := m_try2 hk hi hd m N (s + 1) τ3 s b3 x3 (by omega)
        refine ⟨τ2, ?_, (Q1.tr q3).tr q2, r2, x2⟩
        show mX12_triesPlanks_123 (mX12_triesPlanks_3 (N + m + 1)) (nI k) (nI i) (nI dd) 2 (nI s) τ3 = _
        unfold mX12_triesPlanks_123
        rw [lt_t, li1, nI_add]
        exact e2
end

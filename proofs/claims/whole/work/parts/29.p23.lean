/-! pure: rolls -/
section
variable {σ τ σ' τ' : St} {w h gn kn kE kS tl sn d t1 t2 n : Nat} {gr sz wo fo tx sk sf st hg li pb : Nat → Nat} {g : Gr} {P : Nat → Gr} {sh : Nat → Nat → Bool}
theorem MX.wq (Y : MX τ w h kE kS li pb t1 t2 hg gr kn sz fo) (ht : MQw τ τ') : MX τ' w h kE kS li pb t1 t2 hg gr kn sz fo := by
  obtain ⟨r, x1, x2, x3, x4, x5, x6, x7⟩ := Y
  refine ⟨fun hw => ?_, by rw [ht _ _ (by omega) (by omega)]; exact x1, by rw [ht _ _ (by omega) (by omega)]; exact x2, x3, x4, x5, by rw [ht _ _ (by omega) (by omega)]; exact x6, fun k hk => ?_⟩
  · obtain ⟨⟨c1, c2, c3, c4, c5⟩, p, ⟨q1, q2, q3⟩, g1, g2⟩ := r hw
    refine ⟨⟨?_, ?_, ?_, ?_, c5⟩, fun i hi => ?_, ⟨?_, ?_, q3⟩, fun i hi => ?_, fun i hi => ?_⟩
    · rw [ht _ _ (by omega) (by omega)]; exact c1
    · rw [ht _ _ (by omega) (by omega)]; exact c2
    · rw [ht _ _ (by omega) (by omega)]; exact c3
    · rw [ht _ _ (by omega) (by omega)]; exact c4
    · rw [ht _ _ (by omega) (by omega)]; exact p i hi
    · rw [ht _ _ (by omega) (by omega)]; exact q1
    · rw [ht _ _ (by omega) (by omega)]; exact q2
    · rw [ht _ _ (by omega) (by omega)]; exact g1 i hi
    · rw [ht _ _ (by omega) (by omega)]; exact g2 i hi
  · rw [ht _ _ (by omega) (by omega), ht _ _ (by omega) (by omega)]; exact x7 k hk
/-- where two kinds end apart, as bits -/
def ob (sh : Nat → Nat → Bool) (hg gr : Nat → Nat) (w h : Nat) (sz fo : Nat → Nat) (q : Nat × Nat) : Nat := orF (apF sh hg gr w sz fo q.1 q.2) 0 0 (w * h)
theorem ob_lt (h30 : w * h ≤ 30) (q : Nat × Nat) : ob sh hg gr w h sz fo q < 2 ^ 30 := Nat.lt_of_lt_of_le (orF_lt (w * h) 0 0 (Nat.pow_pos (by decide))) (Nat.pow_le_pow_right (by decide) (by omega))
theorem ob_bit (q : Nat × Nat) {i : Nat} (hi : i < w * h) : (ob sh hg gr w h sz fo q).testBit i = apF sh hg gr w sz fo q.1 q.2 i := by
  unfold ob
  rw [orF_tb, Nat.zero_testBit, decide_eq_true (by omega)]
  simp
def AP (τ : St) (o : Nat × Nat → Nat) (k : Nat) : Prop := ∀ j, j < k → τ 16 j = nI (o (pmF j))
theorem m_f14 {kk : Int32 → Int32 → St → Option (Int32 × St)} {a : Nat} (ha : a < kn) (hk : kn ≤ 5) : ∀ (m N b : Nat) (τ : St), MX τ w h kE kS li pb t1 t2 hg gr kn sz fo → AP τ (ob (shutA w h kE kS pb t1 t2) hg gr w h sz fo) (tri a + b) → b + m = a → ∃ τ', mX12_rolls_14 kk (N + m + 1) (nI (tri a + b)) (nI a) (nI b) τ = kk (nI (tri a + a)) (nI a) τ' ∧ AP τ' (ob (shutA w h kE kS pb t1 t2) hg gr w h sz fo) (tri a + a) ∧ MQw τ τ'
  | 0, N, b, τ, Y, A, e => by
    have : b = a := by omega
    subst this
    refine ⟨τ, ?_, A, MQw.rfl' τ⟩
    rw [show N + 0 + 1 = N + 1 from rfl, mX12_rolls_14, if_neg (nI_nlt (by omega) (by omega))]
  | m + 1, N, b, τ, Y, A, e => by
    obtain ⟨u1, u2⟩ := pmF_at a (by omega) b (by omega)
    obtain ⟨τ1, e1, q1⟩ := m_apartOf Y ha (show b < kn by omega)
    have Q : MQw τ (s_up τ1 16 (tri a + b) (nI (orF (apF (shutA w h kE kS pb t1 t2) hg gr w sz fo a b) 0 0 (w * h)))) := fun i j h1 h2 => by rw [su_o (by omega), q1 i j h2]
    obtain ⟨τ2, e2, A2, q2⟩ := m_f14 (kk := kk) ha hk m N (b + 1) _ (Y.wq Q) (fun j hj => by
      by_cases c : j = tri a + b
      · subst c; rw [su_s, u2]; rfl
      · rw [su_o (by omega), q1 16 j (by omega)]; exact A j (by omega)) (by omega)
    refine ⟨τ2, ?_, A2, Q.tr q2⟩
    rw [show N + (m + 1) + 1 = (N + m + 1) + 1 from rfl, mX12_rolls_14, if_pos (nI_lt (by omega) (by omega)), e1, bd_t, gd_t (ib_nI u1 (by decide)), nx_nI (by omega), lt_t, lt_t, lt_t, li1, nI_add, nI_add]
    exact e2
theorem m_f4 {kk : Int32 → St → Option (Int32 × St)} (hk : kn ≤ 5) : ∀ (m N a : Nat) (τ : St), MX τ w h kE kS li pb t1 t2 hg gr kn sz fo → AP τ (ob (shutA w h kE kS pb t1 t2) hg gr w h sz fo) (tri a) → a + m = kn → ∃ τ', mX12_rolls_4 kk (N + m + 1) (nI (tri a)) (nI a) τ = kk (nI (tri kn)) τ' ∧ AP τ' (ob (shutA w h kE kS pb t1 t2) hg gr w h sz fo) (tri kn) ∧ MQw τ τ'
  | 0, N, a, τ, Y, A, e => by
    have : a = kn := by omega
    subst this
    refine ⟨τ, ?_, A, MQw.rfl' τ⟩
    rw [show N + 0 + 1 = N + 1 from rfl, mX12_rolls_4, Y.2.2.2.2.2.2.1, if_neg (nI_nlt (by omega) (by omega))]
  | m + 1, N, a, τ, Y, A, e => by
    obtain ⟨τ1, e1, A1, q1⟩ := m_f14 (kk := mX12_rolls_40 kk (mX12_rolls_4 kk (N + m + 1))) (show a < kn by omega) hk a (19999 - a) 0 τ Y A (by omega)
    rw [show 19999 - a + a + 1 = FU by unfold FU; omega] at e1
    obtain ⟨τ2, e2, A2, q2⟩ := m_f4 (kk := kk) hk m N (a + 1) τ1 (Y.wq q1) A1 (by omega)
    refine ⟨τ2, ?_, A2, q1.tr q2⟩
    rw [show N + (m + 1) + 1 = (N + m + 1) + 1 from rfl, mX12_rolls_4, Y.2.2.2.2.2.2.1, if_pos (nI_lt (by omega) (by omega)), show (0 : Int32) = nI 0 from rfl]
    rw [show nI (tri a + 0) = nI (tri a) from rfl] at e1
    rw [e1, mX12_rolls_40, lt_t, li1, nI_add]
    exact e2
theorem m_tells_loop {o : Nat × Nat → Nat} {k s : Nat} (A : AP τ o k) (hk : k ≤ 10) (ho : ∀ q, o q < 2 ^ 30) : ∀ (m N j : Nat) (acc : Bool), j + m = k → mX12_tellsAll_5 (N + m + 1) (nI s) (nI k) (z1 acc) (nI j) τ = some (z1 (acc && allF (fun j => !((o (pmF j) &&& s) == 0)) j m), τ)
  | 0, N, j, acc, e => by
    rw [show N + 0 + 1 = N + 1 from rfl, mX12_tellsAll_5, if_neg (nI_nlt (by omega) (by omega)), gd_t (zb_z1 _), show allF (fun j => !((o (pmF j) &&& s) == 0)) j 0 = true from rfl, Bool.and_true]
  | m + 1, N, j, acc, e => by
    have L0 := m_tells_loop (s := s) A hk ho m N (j + 1) false (by omega)
    have L1 := m_tells_loop (s := s) A hk ho m N (j + 1) true (by omega)
    rw [show N + (m + 1) + 1 = (N + m + 1) + 1 from rfl, mX12_tellsAll_5, if_pos (nI_lt (by omega) (by omega))]
    have al : o (pmF j) &&& s ≤ o (pmF j) := Nat.and_le_left
    have := ho (pmF j)
    unfold mX12_tellsAll_31 mX12_tellsAll_32
    simp only [lt_t, li1, nI_add]
    cases acc with
    | false => rw [z1_f, if_pos rfl, Bool.false_and]; rw [Bool.false_and] at L0; exact L0
    | true =>
      rw [z1_t, if_neg (by decide), gd_t (ib_nI (by omega) (by decide))]
      simp only [nx_nI (show j < 2 ^ 31 by omega), A j (by omega), and_nI, li0, nI_inj (show o (pmF j) &&& s < 2 ^ 31 by omega) (show 0 < 2 ^ 31 by decide)]
      rw [Bool.true_and] at L1 ⊢
      by_cases c : o (pmF j) &&& s = 0
      · rw [if_pos c]
        rw [show allF (fun j => !((o (pmF j) &&& s) == 0)) j (m + 1) = false by unfold allF; rw [beq_iff_eq.mpr c]; rfl]
        rw [Bool.false_and] at L0
        exact L0
      · rw [if_neg c]
        rw [show allF (fun j => !((o (pmF j) &&& s) == 0)) j (m + 1) = allF (fun j => !((o (pmF j) &&& s) == 0)) (j + 1) m by show (!((o (pmF j) &&& s) == 0) && _) = _; rw [beq_eq_false_iff_ne.mpr c]; rfl]
        exact L1
def tM (o : Nat × Nat → Nat) (k a b c : Nat) : Bool := allF (fun j => !((o (pmF j) &&& st3 a b c) == 0)) 0 k
theorem m_TA {o : Nat × Nat → Nat} {k W : Nat} (A : AP τ o k) (hk : k ≤ 10) (ho : ∀ q, o q < 2 ^ 30) : TA τ (tM o k) W k := by
  intro a b c _ _ _
  have L := m_tells_loop (s := st3 a b c) A hk ho k (19999 - k) 0 true (by omega)
  rw [show 19999 - k + k + 1 = FU by unfold FU; omega, Bool.true_and] at L
  exact L
theorem allF_iff {f : Nat → Bool} : ∀ (m i : Nat), allF f i m = true ↔ ∀ j, i ≤ j → j < i + m → f j = true
  | 0, i => ⟨fun _ j h1 h2 => by omega, fun _ => rfl⟩
  | m + 1, i => by
    unfold allF
    rw [Bool.and_eq_true, allF_iff m (i + 1)]
    constructor
    · rintro ⟨h1, h2⟩ j h3 h4
      rcases (show j = i ∨ i + 1 ≤ j by omega) with q | q
      · rw [q]; exact h1
      · exact h2 j q (by omega)
    · intro hh
      exact ⟨hh i (Nat.le_refl _) (by omega), fun j h1 h2 => hh j (by omega) (by omega)⟩
/-- the pairs that are to be told apart -/
def told (sh : Nat → Nat → Bool) (hg gr : Nat → Nat) (w : Nat) (sz fo : Nat → Nat) (kn a b c : Nat) : Prop := ∀ x y, y < x → x < kn → apF sh hg gr w sz fo x y a = true ∨ apF sh hg gr w sz fo x y b = true ∨ apF sh hg gr w sz fo x y c = true
theorem tM_iff (hk : kn ≤ 5) {a b c : Nat} (ha : a < w * h) (hb : b < w * h) (hc : c < w * h) : tM (ob sh hg gr w h sz fo) (tri kn) a b c = true ↔ told sh hg gr w sz fo kn a b c := by
  unfold tM told
  rw [allF_iff]
  have key : ∀ q : Nat × Nat, (!((ob sh hg gr w h sz fo q &&& st3 a b c) == 0)) = true ↔ (apF sh hg gr w sz fo q.1 q.2 a = true ∨ apF sh hg gr w sz fo q.1 q.2 b = true ∨ apF sh hg gr w sz fo q.1 q.2 c = true) := by
    intro q
    rw [Bool.not_eq_true', beq_eq_false_iff_ne, Ne, and_st3, ob_bit q ha, ob_bit q hb, ob_bit q hc]
    cases apF sh hg gr w sz fo q.1 q.2 a <;> cases apF sh hg gr w sz fo q.1 q.2 b <;> cases apF sh hg gr w sz fo q.1 q.2 c <;> simp
  constructor
  · intro H x y h1 h2
    obtain ⟨u1, u2⟩ := pmF_at x (by omega) y h1
    have hm := tri_mono kn (by omega) x h2
    have : tri (x + 1) = tri x + x := rfl
    have := (key (pmF (tri x + y))).mp (H (tri x + y) (Nat.zero_le _) (by omega))
    rw [u2] at this
    exact this
  · intro H j _ hj
    obtain ⟨u1, u2⟩ := pmF_in kn (by omega) j (by omega)
    exact (key (pmF j)).mpr (H _ _ u1 u2)
theorem apF_symm (a b i : Nat) : apF sh hg gr w sz fo a b i = apF sh hg gr w sz fo b a i := by
  unfold apF
  congr 1
  by_cases c : te w (rl sh hg gr w (sz a) (fo a) i) = te w (rl sh hg gr w (sz b) (fo b) i)
  · rw [c]
  · rw [beq_eq_false_iff_ne.mpr c, beq_eq_false_iff_ne.mpr (fun q => c q.symm)]
/-- the class's tally: the pairs that a cell tells apart -/
def TL (σ : St) (n : Nat) (ap : Nat × Nat → Nat → Bool) (L : List (Nat × Nat)) : Prop := ∀ i, i < n → σ 3 i = nI (tbL (fun q => ap q i) L)
theorem shr1_bit {m k : Nat} (hm : m < 2 ^ 31) (hk : k < 31) : (i_shr (nI m) (nI k) &&& 1 = 0) = (m.testBit k = false) := by
  rw [bit_nI hm (by omega), li0, nI_inj (by omega) (by decide)]
  apply propext
  rw [Nat.testBit_eq_decide_div_mod_eq]
  simp
theorem s_note_loop {m p : Nat} (hm : m < 2 ^ 31) (n30 : n ≤ 30) : ∀ (q N i : Nat) (σ : St) (f : Nat → Nat), σ 10 2 = nI n → (∀ j, j < n → σ 3 j = nI (f j)) → i + q = n → ∃ σ', mX11_noteTold_2 (N + q + 1) (nI m) (nI p) (nI i) σ = some (0, σ') ∧ (∀ j, j < n → σ' 3 j = nI (if i ≤ j ∧ m.testBit j then f j ||| p else f j)) ∧ ∀ a b, a ≠ 3 → σ' a b = σ a b
  | 0, N, i, σ, f, hn, hf, e => by
    refine ⟨σ, ?_, fun j hj => by rw [if_neg (by omega)]; exact hf j hj, fun _ _ _ => rfl⟩
    rw [show N + 0 + 1 = N + 1 from rfl, mX11_noteTold_2, hn, if_neg (nI_nlt (by omega) (by omega))]
  | q + 1, N, i, σ, f, hn, hf, e => by
    rw [show N + (q + 1) + 1 = (N + q + 1) + 1 from rfl, mX11_noteTold_2, hn, if_pos (nI_lt (by omega) (by omega))]
    unfold mX11_noteTold_31
    simp only [shr1_bit hm (show i < 31 by omega)]
    simp only [lt_t, li1, nI_add]
    cases c : m.testBit i with
    | false =>
      obtain ⟨σ1, e1, e2, e3⟩ := s_note_loop (p := p) hm n30 q N (i + 1) σ f hn hf (by omega)
      refine ⟨σ1, by rw [if_pos rfl]; exact e1, fun j hj => ?_, e3⟩
      rw [e2 j hj]
      by_cases cj : j = i
      · subst cj; rw [if_neg (by omega), if_neg (by rw [c]; simp)]
      · congr 1
        by_cases c2 : i + 1 ≤ j ∧ m.testBit j = true
        · rw [if_pos c2, if_pos ⟨by omega, c2.2⟩]
        · rw [if_neg c2, if_neg (fun z => c2 ⟨by omega, z.2⟩)]
    | true =>
      have hi : σ 3 i = nI (f i) := hf i (by omega)
      obtain ⟨σ1, e1, e2, e3⟩ := s_note_loop (p := p) hm n30 q N (i + 1) (s_up σ 3 i (nI (f i ||| p))) (fun j => if j = i then f i ||| p else f j) (by rw [su_o (by omega)]; exact hn) (fun j hj => by
        by_cases cj : j = i
        · subst cj; rw [su_s, if_pos rfl]
        · rw [su_o (by omega), if_neg cj]; exact hf j hj) (by omega)
      refine ⟨σ1, ?_, fun j hj => ?_, fun a b hab => by rw [e3 a b hab, su_o (by omega)]⟩
      · rw [if_neg (by simp), gd_t (ib_nI (by omega) (by decide)), gd_t (ib_nI (by omega) (by decide)), nx_nI (by omega), hi, or_nI]
        exact e1
      · rw [e2 j hj]
        by_cases cj : j = i
        · subst cj; rw [if_neg (by omega), if_pos rfl, if_pos ⟨Nat.le_refl _, c⟩]
        · congr 1
          rw [if_neg cj]
          by_cases c2 : i + 1 ≤ j ∧ m.testBit j = true
          · rw [if_pos c2, if_pos ⟨by omega, c2.2⟩]
          · rw [if_neg c2, if_neg (fun z => c2 ⟨by omega, z.2⟩)]
theorem s_note {m p : Nat} (hm : m < 2 ^ 31) (n30 : n ≤ 30) {f : Nat → Nat} (hn : σ 10 2 = nI n) (hf : ∀ j, j < n → σ 3 j = nI (f j)) : ∃ σ', mX11_noteTold (nI m) (nI p) σ = some (0, σ') ∧ (∀ j, j < n → σ' 3 j = nI (if m.testBit j then f j ||| p else f j)) ∧ ∀ a b, a ≠ 3 → σ' a b = σ a b := by
  obtain ⟨σ', e1, e2, e3⟩ := s_note_loop (p := p) hm n30 n (19999 - n) 0 σ f hn hf (by omega)
  rw [show 19999 - n + n + 1 = FU by unfold FU; omega] at e1
  refine ⟨σ', e1, fun j hj => ?_, e3⟩
  rw [e2 j hj]
  congr 1
  by_cases c : m.testBit j = true
  · rw [if_pos ⟨Nat.zero_le _, c⟩, if_pos c]
  · rw [if_neg (fun z => c z.2), if_neg c]
end

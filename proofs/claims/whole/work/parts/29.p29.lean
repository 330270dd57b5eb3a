/-! pure: lets -/
def put (f : Nat → Nat) (e c : Nat) : Nat → Nat := fun j => f j + if j = e then c else 0
theorem put_s (f : Nat → Nat) (e c : Nat) : put f e c e = f e + c := by unfold put; rw [if_pos rfl]
theorem put_o (f : Nat → Nat) {e c j : Nat} (h : j ≠ e) : put f e c j = f j := by unfold put; rw [if_neg h]; rfl
theorem sumN_put (f : Nat → Nat) {e c : Nat} : ∀ n, e < n → sumN (put f e c) n = sumN f n + c
  | 0, h => absurd h (Nat.not_lt_zero e)
  | n + 1, h => by
    show sumN (put f e c) n + put f e c n = sumN f n + f n + c
    by_cases q : e = n
    · subst q
      rw [put_s, sumN_ext e (f' := f) (fun j hj => put_o f (by omega))]
      omega
    · rw [put_o f (by omega), sumN_put f n (by omega)]
      omega
theorem sumN_cut {f : Nat → Nat} {n : Nat} (h : ∀ j, n ≤ j → f j = 0) : ∀ m, sumN f (n + m) = sumN f n
  | 0 => rfl
  | m + 1 => by show sumN f (n + m) + f (n + m) = _; rw [sumN_cut h m, h _ (by omega)]; rfl
/-- the ground with a coin more -/
def gl (g : Gr) (fell : Bool) (e c : Nat) : Gr := if fell then gup (gup g 3 (put (g 3) e 1)) 4 (put (g 4) e c) else gup (gup g 1 (put (g 1) e 1)) 2 (put (g 2) e c)
section
variable {σ τ σ' τ' : St} {w h gn kn kE kS tl sn d t1 t2 n B : Nat} {gr sz wo fo tx sk sf st hg li pb : Nat → Nat} {g g' : Gr} {P P' : Nat → Gr} {sh : Nat → Nat → Bool}
theorem UND.let_ {e c : Nat} (he : e < w * h) (fell : Bool) : UND w h (if fell then 1 else 0) e 1 c (gl g fell e c) g := by
  refine ⟨he, ?_⟩
  cases fell with
  | false => exact Or.inl ⟨rfl, rfl, fun _ => rfl, fun _ => rfl, fun _ => rfl, fun _ => rfl, fun _ => rfl, fun _ => rfl⟩
  | true => exact Or.inr (Or.inl ⟨rfl, rfl, fun _ => rfl, fun _ => rfl, fun _ => rfl, fun _ => rfl, fun _ => rfl, fun _ => rfl⟩)
theorem GV.let_ (V : GV w h kE kS g) {e c : Nat} (he : e < w * h) (h30 : w * h ≤ 30) (hc : c ≤ 99) (hs : sumN (g 1) 30 + sumN (g 3) 30 < 999) (fell : Bool) : GV w h kE kS (gl g fell e c) := by
  obtain ⟨v1, v2, v3, v4, v5, v6, v7⟩ := V
  cases fell with
  | false =>
    refine ⟨v1, v2, v3, v4, ?_, fun j hj => ?_, fun j hj => ?_⟩
    · show sumN (put (g 1) e 1) 30 + sumN (g 3) 30 ≤ 999
      rw [sumN_put _ 30 (by omega)]
      omega
    · show put (g 2) e c j ≤ 99 * put (g 1) e 1 j ∧ g 4 j ≤ 99 * g 3 j
      have := v6 j hj
      by_cases q : j = e
      · subst q; rw [put_s, put_s]; omega
      · rw [put_o _ q, put_o _ q]; exact this
    · show put (g 1) e 1 j = 0 ∧ g 3 j = 0
      rw [put_o _ (by omega)]
      exact v7 j hj
  | true =>
    refine ⟨v1, v2, v3, v4, ?_, fun j hj => ?_, fun j hj => ?_⟩
    · show sumN (g 1) 30 + sumN (put (g 3) e 1) 30 ≤ 999
      rw [sumN_put _ 30 (by omega)]
      omega
    · show g 2 j ≤ 99 * g 1 j ∧ put (g 4) e c j ≤ 99 * put (g 3) e 1 j
      have := v6 j hj
      by_cases q : j = e
      · subst q; rw [put_s, put_s]; omega
      · rw [put_o _ q, put_o _ q]; exact this
    · show g 1 j = 0 ∧ put (g 3) e 1 j = 0
      rw [put_o _ (by omega)]
      exact v7 j hj
theorem s_add (s : SGg σ w h g) {e c : Nat} (he : e < w * h) (h30 : w * h ≤ 30) (fell : Bool) : ∃ σ', mX3_addCoins (z1 fell) (nI e) 1 (nI c) σ = some (0, σ') ∧ SGg σ' w h (gl g fell e c) ∧ ∀ i j, ¬ (29 ≤ i ∧ i ≤ 32) → σ' i j = σ i j := by
  obtain ⟨s1, s2, s3, s4, s5, s6⟩ := s.2 e he
  have G : ∀ {α : Type} (o : Option α), gd (ib (nI e) 30) o = o := fun o => gd_t (ib_nI (show e < 30 by omega) (by decide)) o
  unfold mX3_addCoins
  simp only [G, nx_nI (show e < 2 ^ 31 by omega), s3, s5, lt_t]
  cases fell with
  | false =>
    have q : s_up σ 29 e (nI (g 1 e) + 1) 30 e = nI (g 2 e) := by rw [su_o (by omega)]; exact s4
    refine ⟨s_up (s_up σ 29 e (nI (g 1 e + 1))) 30 e (nI (g 2 e + c)), ?_, ⟨?_, fun j hj => ?_⟩, fun i j hij => by rw [su_o (by omega), su_o (by omega)]⟩
    · rw [z1_f, if_neg (by decide), q, li1, nI_add, nI_add]
    · rw [su_o (by omega), su_o (by omega)]; exact s.1
    · obtain ⟨r1, r2, r3, r4, r5, r6⟩ := s.2 j hj
      refine ⟨by rw [su_o (by omega), su_o (by omega)]; exact r1, by rw [su_o (by omega), su_o (by omega)]; exact r2, ?_, ?_, by rw [su_o (by omega), su_o (by omega)]; exact r5, by rw [su_o (by omega), su_o (by omega)]; exact r6⟩
      · show _ = nI (put (g 1) e 1 j)
        by_cases q : j = e
        · subst q; rw [su_o (by omega), su_s, put_s]
        · rw [su_o (by omega), su_o (by omega), put_o _ q]; exact r3
      · show _ = nI (put (g 2) e c j)
        by_cases q : j = e
        · subst q; rw [su_s, put_s]
        · rw [su_o (by omega), su_o (by omega), put_o _ q]; exact r4
  | true =>
    have q : s_up σ 31 e (nI (g 3 e) + 1) 32 e = nI (g 4 e) := by rw [su_o (by omega)]; exact s6
    refine ⟨s_up (s_up σ 31 e (nI (g 3 e + 1))) 32 e (nI (g 4 e + c)), ?_, ⟨?_, fun j hj => ?_⟩, fun i j hij => by rw [su_o (by omega), su_o (by omega)]⟩
    · rw [z1_t, if_pos rfl, q, li1, nI_add, nI_add]
    · rw [su_o (by omega), su_o (by omega)]; exact s.1
    · obtain ⟨r1, r2, r3, r4, r5, r6⟩ := s.2 j hj
      refine ⟨by rw [su_o (by omega), su_o (by omega)]; exact r1, by rw [su_o (by omega), su_o (by omega)]; exact r2, by rw [su_o (by omega), su_o (by omega)]; exact r3, by rw [su_o (by omega), su_o (by omega)]; exact r4, ?_, ?_⟩
      · show _ = nI (put (g 3) e 1 j)
        by_cases q : j = e
        · subst q; rw [su_o (by omega), su_s, put_s]
        · rw [su_o (by omega), su_o (by omega), put_o _ q]; exact r5
      · show _ = nI (put (g 4) e c j)
        by_cases q : j = e
        · subst q; rw [su_s, put_s]
        · rw [su_o (by omega), su_o (by omega), put_o _ q]; exact r6
theorem s_letCome (sg : SGg σ w h g) (sd : SDe σ w h g d P) (hd : d ≤ 10) {e c : Nat} (he : e < w * h) (h30 : w * h ≤ 30) (fell : Bool) : ∃ σ', mX3_letCome (nI e) (z1 fell) (nI c) σ = some (0, σ') ∧ SGo σ' 26 w h (gl g fell e c) (nd d) (nP d P g) ∧ ∀ i j, ¬ (26 ≤ i ∧ i ≤ 36) → σ' i j = σ i j := by
  obtain ⟨σ1, a1, a2, a3⟩ := s_add sg he h30 (c := c) fell
  obtain ⟨σ2, n1, n2, n3⟩ := (sd.fr (σ' := σ1) (fun p q hpq => a3 p q (by omega))).note hd (UND.let_ (g := g) he fell (c := c))
  refine ⟨σ2, ?_, SGo.join (a2.fr (fun p q hpq => n3 p q (by omega) (by omega))) n2, fun i j hij => by rw [n3 i j (by omega) (by omega), a3 i j (by omega)]⟩
  unfold mX3_letCome mX3_letCome_10 mX3_letCome_26
  cases fell with
  | false =>
    have a1' : mX3_addCoins 0 (nI e) 1 (nI c) σ = some (0, σ1) := a1
    have n1' : mX3_note 0 (nI e) 1 (nI c) σ1 = some (0, σ2) := n1
    rw [if_pos (show z1 false = 0 from rfl), a1', bd_t, if_pos (show z1 false = 0 from rfl), n1', bd_t]
  | true =>
    have a1' : mX3_addCoins 1 (nI e) 1 (nI c) σ = some (0, σ1) := a1
    have n1' : mX3_note 1 (nI e) 1 (nI c) σ1 = some (0, σ2) := n1
    rw [if_neg (show ¬ z1 true = 0 by decide), a1', bd_t, if_neg (show ¬ z1 true = 0 by decide), n1', bd_t]
theorem m_letIn {Q : Nat → Gr} {D k c : Nat} {r : Nat × Bool × Nat × Nat} (cv : CV w h gn kn kE kS gr sz wo fo tl tx sn sk sf st) (im : IM τ w h gn kn kE kS gr sz wo fo tl tx sn sk sf st) (mb : MB τ 0 g D Q) (V : GV w h kE kS (gl g r.2.1 r.1 c)) (hD : D ≤ 10) (hk : k < kn) (hwo : τ 8 k = nI c) (h0 : τ 0 32 = enc r) (hr : r.1 < w * h) : ∃ τ', (lt (i_rem (τ 0 32) 100) fun x22 => if τ 0 32 < 100 then mX12_lets_77 (nI k) x22 0 τ else mX12_lets_77 (nI k) x22 1 τ) = some (nI (te w r), τ') ∧ MB τ' 0 (gl g r.2.1 r.1 c) D Q ∧ ∀ i j, ¬ (i = 1 ∧ 1 ≤ j ∧ j < 153) → τ' i j = τ i j := by
  have h30 : w * h ≤ 30 := by
    have c1 := cv.1
    exact Nat.mul_le_mul (by omega : w ≤ 6) (by omega : h ≤ 5)
  have k5 : kn ≤ 5 := cv.2.2.2.2.1
  obtain ⟨e, he⟩ : ∃ e, e = r.1 := ⟨_, rfl⟩
  obtain ⟨b1, b2, b3, b4, b5⟩ := mb.2.1 e (by omega)
  rw [show 0 + 1 + 30 + e = 31 + e by omega] at b2
  rw [show 0 + 1 + 60 + e = 61 + e by omega] at b3
  rw [show 0 + 1 + 90 + e = 91 + e by omega] at b4
  rw [show 0 + 1 + 120 + e = 121 + e by omega] at b5
  have en : (enc r < 100) = (r.2.1 = false) := by
    unfold enc
    rw [show (100 : Int32) = nI 100 from rfl, nI_ltp (by split <;> omega) (by decide)]
    cases r.2.1 <;> simp <;> omega
  have u31 : (31 : Int32) + nI e = nI (31 + e) := by rw [show (31 : Int32) = nI 31 from rfl, nI_add]
  have u61 : (61 : Int32) + nI e = nI (61 + e) := by rw [show (61 : Int32) = nI 61 from rfl, nI_add]
  have u91 : (91 : Int32) + nI e = nI (91 + e) := by rw [show (91 : Int32) = nI 91 from rfl, nI_add]
  have u121 : (121 : Int32) + nI e = nI (121 + e) := by rw [show (121 : Int32) = nI 121 from rfl, nI_add]
  rw [lt_t, h0, enc_rem (by omega), ← he]
  simp only [en]
  unfold mX12_lets_77 mX12_lets_95 mX12_lets_119
  simp only [u31, u61, u91, u121, gd_t (ib_nI (show 31 + e < 5019 by omega) (by decide)), gd_t (ib_nI (show 61 + e < 5019 by omega) (by decide)), gd_t (ib_nI (show 91 + e < 5019 by omega) (by decide)), gd_t (ib_nI (show 121 + e < 5019 by omega) (by decide)), gd_t (ib_nI (show k < 5 by omega) (by decide)), nx_nI (show 31 + e < 2 ^ 31 by omega), nx_nI (show 61 + e < 2 ^ 31 by omega), nx_nI (show 91 + e < 2 ^ 31 by omega), nx_nI (show 121 + e < 2 ^ 31 by omega), nx_nI (show k < 2 ^ 31 by omega), lt_t, b2, b4, if_true]
  cases hf : r.2.1 with
  | false =>
    rw [hf, ← he] at V
    obtain ⟨τ', ht'⟩ : ∃ τ', τ' = s_up (s_up τ 1 (31 + e) (nI (g 1 e + 1048576 * g 5 e) + 1)) 1 (61 + e) (nI (g 2 e + c)) := ⟨_, rfl⟩
    have fr : ∀ i j, ¬ (i = 1 ∧ 1 ≤ j ∧ j < 153) → τ' i j = τ i j := fun i j hij => by rw [ht', su_o (by omega), su_o (by omega)]
    have mb' : MB τ' 0 (gl g false e c) D Q := by
      refine mb.pres hD (fun j hj => fr 1 j (by omega)) (fun j hj => ?_)
      obtain ⟨r1, r2, r3, r4, r5⟩ := mb.2.1 j hj
      refine ⟨by rw [ht', su_o (by omega), su_o (by omega)]; exact r1, ?_, ?_, by rw [ht', su_o (by omega), su_o (by omega)]; exact r4, by rw [ht', su_o (by omega), su_o (by omega)]; exact r5⟩
      · show _ = nI (put (g 1) e 1 j + 1048576 * g 5 j)
        by_cases q : j = e
        · rw [q, ht', su_o (by omega), show 1 + 30 + e = 31 + e by omega, su_s, put_s, li1, nI_add]
          congr 1
          omega
        · rw [ht', su_o (by omega), su_o (by omega), put_o _ q]; exact r2
      · show _ = nI (put (g 2) e c j)
        by_cases q : j = e
        · rw [q, ht', show 1 + 60 + e = 61 + e by omega, su_s, put_s]
        · rw [ht', su_o (by omega), su_o (by omega), put_o _ q]; exact r3
    refine ⟨τ', ?_, mb', fr⟩
    have Y' := MX.of cv (im.fr2 (fun p q h1 _ _ => fr p q (by omega))) mb' V
    rw [if_pos rfl, su_o (by omega), b3, su_o (by omega), hwo, nI_add, ← ht', m_toldEnd Y' (by rw [fr 0 32 (by omega)]; exact h0) hr, bd_t]
  | true =>
    rw [hf, ← he] at V
    obtain ⟨τ', ht'⟩ : ∃ τ', τ' = s_up (s_up τ 1 (91 + e) (nI (g 3 e) + 1)) 1 (121 + e) (nI (g 4 e + c)) := ⟨_, rfl⟩
    have fr : ∀ i j, ¬ (i = 1 ∧ 1 ≤ j ∧ j < 153) → τ' i j = τ i j := fun i j hij => by rw [ht', su_o (by omega), su_o (by omega)]
    have mb' : MB τ' 0 (gl g true e c) D Q := by
      refine mb.pres hD (fun j hj => fr 1 j (by omega)) (fun j hj => ?_)
      obtain ⟨r1, r2, r3, r4, r5⟩ := mb.2.1 j hj
      refine ⟨by rw [ht', su_o (by omega), su_o (by omega)]; exact r1, by rw [ht', su_o (by omega), su_o (by omega)]; exact r2, by rw [ht', su_o (by omega), su_o (by omega)]; exact r3, ?_, ?_⟩
      · show _ = nI (put (g 3) e 1 j)
        by_cases q : j = e
        · rw [q, ht', su_o (by omega), show 1 + 90 + e = 91 + e by omega, su_s, put_s, li1, nI_add]
        · rw [ht', su_o (by omega), su_o (by omega), put_o _ q]; exact r4
      · show _ = nI (put (g 4) e c j)
        by_cases q : j = e
        · rw [q, ht', show 1 + 120 + e = 121 + e by omega, su_s, put_s]
        · rw [ht', su_o (by omega), su_o (by omega), put_o _ q]; exact r5
    refine ⟨τ', ?_, mb', fr⟩
    have Y' := MX.of cv (im.fr2 (fun p q h1 _ _ => fr p q (by omega))) mb' V
    rw [if_neg (by decide), if_neg n10, if_neg n10, su_o (by omega), b5, su_o (by omega), hwo, nI_add, ← ht', m_toldEnd Y' (by rw [fr 0 32 (by omega)]; exact h0) hr, bd_t]
end
theorem sm_lets : Sm3 Inv mX11_lets mX12_lets := by
  intro a x y σ τ I
  have I0 := I
  obtain ⟨w, h, gn, kn, kE, kS, gr, sz, wo, fo, tl, tx, sn, sk, sf, st, g, d, P, cv, im, is, ig, img, t1, t2⟩ := I
  have X := SX.of cv is ig.1 ig.2.2.1
  have Y := MX.of cv im ig.2.1 ig.2.2.1
  have h30 := X.1.1
  unfold mX11_lets mX12_lets
  rcases KIK.or kn a with ⟨k, ck⟩ | ck
  · rw [KIK.m Y ck, bd_t, if_neg n10]
    rcases CE.or w h x y with ⟨i, ci⟩ | ci
    · have hi := ci.lt
      obtain ⟨hk, rfl⟩ := ck
      have s3 := ig.1.2.2.1
      have m2 := ig.2.1.2.1
      have S1 := s_sum (r := 29) h30 X.2.2.1 (fun j hj => (s3 j hj).2.2.1)
      have S3 := s_sum (r := 31) h30 X.2.2.1 (fun j hj => (s3 j hj).2.2.2.2.1)
      have M3 := m_sum Y (b := 91) (by omega) (f := g 3) (fun j hj => by have := (m2 j (by omega)).2.2.2.1; rw [show 91 + j = 0 + 1 + 90 + j by omega]; exact this)
      have c1 := sumN_cut (f := g 1) (n := w * h) (fun j hj => (ig.2.2.1.2.2.2.2.2.2 j hj).1) (30 - w * h)
      have c3 := sumN_cut (f := g 3) (n := w * h) (fun j hj => (ig.2.2.1.2.2.2.2.2.2 j hj).2) (30 - w * h)
      rw [show w * h + (30 - w * h) = 30 by omega] at c1 c3
      have v5 := ig.2.2.1.2.2.2.2.1
      rw [CE.s X ci, bd_t, KIK.s X ⟨hk, rfl⟩, bd_t, if_neg n10, if_neg (nI_m1 (by omega)), CE.m Y ci, bd_t, if_neg n10, S1, bd_t, S3, bd_t, m_lying Y, bd_t, show (91 : Int32) = nI 91 from rfl, M3, bd_t, nI_add]
      by_cases cs : sumN (g 1) (w * h) + sumN (g 3) (w * h) = 999
      · rw [if_neg (show ¬ nI (sumN (g 1) (w * h) + sumN (g 3) (w * h)) < 999 by rw [cs]; decide), if_pos (show nI (sumN (g 1) (w * h) + sumN (g 3) (w * h)) = 999 by rw [cs]; rfl)]
        exact ⟨_, σ, τ, rfl, rfl, I0⟩
      · have hlt : sumN (g 1) (w * h) + sumN (g 3) (w * h) < 999 := by omega
        rw [if_pos (show nI (sumN (g 1) (w * h) + sumN (g 3) (w * h)) < 999 from nI_lt (b := 999) hlt (by decide)), if_neg (show ¬ nI (sumN (g 1) (w * h) + sumN (g 3) (w * h)) = 999 by rw [show (999 : Int32) = nI 999 from rfl, nI_inj (by omega) (by decide)]; exact cs)]
        obtain ⟨τ1, k1, k2, k3, k4⟩ := m_keepPast ig.2.1 ig.2.2.2.1
        have im1 := im.fr2 (τ' := τ1) (fun p q h1 _ _ => k4 p q h1)
        have Y1 := MX.of cv im1 k2 ig.2.2.1
        obtain ⟨τ2, e1, e2, -, -, q1⟩ := m_rollKind Y1 hk hi
        obtain ⟨σ1, f1, f2, f3, -, -, -, f6⟩ := s_goAs X (r := 59) (by omega) hk hi
        have l := X.lt (size := sz k) (f0 := fo k) hi
        obtain ⟨r, hr⟩ : ∃ r, r = rl (shutA w h kE kS (g 5) 99 99) (g 0) gr w (sz k) (fo k) i := ⟨_, rfl⟩
        rw [← hr] at e2 f2 f3 l
        have hw1 : wo k ≤ 99 := (cv.2.2.2.2.2.2.1 k hk).2.2.2.1
        have w1 := (is.2.2.2.2.2.2.2.2.2.1 k hk).2.1
        have w2 := (im.2.2.2.2.2.2.2.2.2.2.1 k hk).2.1
        have V' := ig.2.2.1.let_ (e := r.1) (c := wo k) l h30 hw1 (by omega) r.2.1
        have mb2 : MB τ2 0 g (nd d) (nP d P g) := ⟨by rw [q1 1 _ (by omega)]; exact k2.1, k2.2.1.mv (fun j _ => q1 1 _ (by omega)), fun kk hkk => (k2.2.2 kk hkk).mv (fun j _ => q1 1 _ (by omega))⟩
        obtain ⟨τ3, g1, g2, g3⟩ := m_letIn (c := wo k) (r := r) cv (im1.fr2 (fun p q h1 _ h3 => q1 p q h3)) mb2 V' (nd_le ig.2.2.2.1).2 hk (by rw [q1 8 _ (by omega), k4 8 _ (by omega)]; exact w2) e2 l
        obtain ⟨sg, sd⟩ := ig.1.split
        obtain ⟨σ2, u1, u2, u3⟩ := s_letCome (sg.fr (σ' := σ1) (fun p q hpq => f6 p q (by omega) (by omega))) (sd.fr (σ' := σ1) (fun p q hpq => f6 p q (by omega) (by omega))) ig.2.2.2.1 (e := r.1) (c := wo k) l h30 r.2.1
        have is2 := is.fr2 (σ' := σ2) (fun p q hpq => by rw [u3 p q (by omega), f6 p q (by omega) (by omega)])
        have X2 := SX.of cv is2 u2 V'
        have k5 := X.2.2.2.2.1
        rw [k1, bd_t, CE.mb Y1 ci, bd_t, e1, bd_t, g1, f1, bd_t, gd_t (ib_nI (show k < 5 by omega) (by decide)), nx_nI (by omega), f2, f3, f6 16 k (by decide) (by decide), w1, u1, bd_t, s_endCode X2 (r := r) (by rw [u3 59 0 (by omega)]; exact f2) (by rw [u3 59 1 (by omega)]; exact f3) l, bd_t]
        refine ⟨_, σ2, τ3, rfl, rfl, ?_⟩
        exact Inv.nw cv im is img t1 t2 (fun p q hpq => by rw [u3 p q (by omega), f6 p q (by omega) (by omega)]) (fun p q h1 h2 => by rw [g3 p q (by omega), q1 p q h2, k4 p q h1]) (fun q hq => by rw [g3 1 q (by omega), q1 1 q (by omega), k3 q hq]) ⟨u2, g2, V', (nd_le ig.2.2.2.1).2, GV.past ig.2.2.1 ig.2.2.2.2 ig.2.2.2.1⟩
    · rw [CE.s0 X ci, bd_t, KIK.s X ck, bd_t, if_neg n10, if_pos rfl, CE.mn Y ci, bd_t, if_pos rfl]
      exact ⟨_, σ, τ, rfl, rfl, I0⟩
  · rw [KIK.mn Y ck, bd_t, if_pos rfl]
    refine ⟨-1, σ, τ, ?_, rfl, I0⟩
    rcases CE.or w h x y with ⟨i, ci⟩ | ci
    · rw [CE.s X ci, bd_t, KIK.s0 X ck, bd_t, if_pos rfl]
    · rw [CE.s0 X ci, bd_t, KIK.s0 X ck, bd_t, if_pos rfl]

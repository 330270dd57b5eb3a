/-! pure: rolls, the class; the call -/
theorem fA1 (t : Nat → Nat → Nat → Bool) (a : Nat) : fA t 1 a = fC t a a a := by
  show fs (fB t 1 a) a (a + 1 - a) = _
  rw [show a + 1 - a = 1 by omega, fs_one]
  show fs (fC t a a) a (a + 1 - a) = _
  rw [show a + 1 - a = 1 by omega, fs_one]
theorem fA2 (t : Nat → Nat → Nat → Bool) (a : Nat) : fA t 2 a = fs (fun b => fC t a b b) 0 a := by
  show fs (fB t 2 a) 0 (a - 0) = _
  rw [Nat.sub_zero]
  refine fs_ext a 0 (fun b _ _ => ?_)
  show fs (fC t a b) b (b + 1 - b) = _
  rw [show b + 1 - b = 1 by omega, fs_one]
theorem fA3 (t : Nat → Nat → Nat → Bool) (a : Nat) : fA t 3 a = fs (fun b => fs (fC t a b) 0 b) 0 a := by
  show fs (fB t 3 a) 0 (a - 0) = _
  rw [Nat.sub_zero]
  refine fs_ext a 0 (fun b _ _ => ?_)
  show fs (fC t a b) 0 (b - 0) = _
  rw [Nat.sub_zero]
theorem fA_ext {t t' : Nat → Nat → Nat → Bool} {W : Nat} (h : ∀ a b c, a < W → b < W → c < W → t a b c = t' a b c) : fs (fA t 1) 0 W = fs (fA t' 1) 0 W ∧ fs (fA t 2) 0 W = fs (fA t' 2) 0 W ∧ fs (fA t 3) 0 W = fs (fA t' 3) 0 W := by
  refine ⟨fs_ext W 0 (fun a _ ha => ?_), fs_ext W 0 (fun a _ ha => ?_), fs_ext W 0 (fun a _ ha => ?_)⟩
  · rw [fA1, fA1]; unfold fC; rw [h a a a (by omega) (by omega) (by omega)]
  · rw [fA2, fA2]; exact fs_ext a 0 (fun b _ hb => by unfold fC; rw [h a b b (by omega) (by omega) (by omega)])
  · rw [fA3, fA3]; exact fs_ext a 0 (fun b _ hb => fs_ext b 0 (fun c _ hc => by unfold fC; rw [h a b c (by omega) (by omega) (by omega)]))
theorem fs_0n {f : Nat → Option Nat} (h : f 0 = none) (n : Nat) : fs f 0 n = fs f 1 (n - 1) := by
  cases n with
  | zero => rfl
  | succ n => rw [fs_n h]; rfl
theorem fs_1n {f : Nat → Option Nat} (h : f 1 = none) (n : Nat) : fs f 1 n = fs f 2 (n - 1) := by
  cases n with
  | zero => rfl
  | succ n => rw [fs_n h]; rfl
def rsO (o : Option Nat) (σ : St) (k : Option (Int32 × St)) : Option (Int32 × St) := match o with
  | some x => some (nI x, σ)
  | none => k
section
variable {σ τ σ' τ' : St} {w h gn kn kE kS tl sn d t1 t2 n A : Nat} {gr sz wo fo tx sk sf st hg li pb : Nat → Nat} {g : Gr} {P : Nat → Gr} {sh : Nat → Nat → Bool} {ty : Nat → Nat} {t : Nat → Nat → Nat → Bool}
/-- what the search reads: the tally and when a set tells all -/
def TT (σ : St) (n A : Nat) (ty : Nat → Nat) (t : Nat → Nat → Nat → Bool) : Prop := n ≤ 30 ∧ σ 10 2 = nI n ∧ A < 2 ^ 31 ∧ (∀ i, i < n → σ 3 i = nI (ty i)) ∧ (∀ i j k, (ty i ||| ty j) ||| ty k < 2 ^ 31) ∧ ∀ i j k, i < n → j < n → k < n → (((ty i ||| ty j) ||| ty k = A) = (t i j k = true))
theorem TT.u1 (T : TT σ n A ty t) {i : Nat} (hi : i < n) : (nI (ty i) = nI A) = (t i i i = true) := by
  have := T.2.2.2.2.1 i i i
  rw [Nat.or_self, Nat.or_self] at this
  rw [nI_inj this T.2.2.1, ← T.2.2.2.2.2 i i i hi hi hi, Nat.or_self, Nat.or_self]
theorem TT.u2 (T : TT σ n A ty t) {i j : Nat} (hi : i < n) (hj : j < n) : (nI (ty i) ||| nI (ty j) = nI A) = (t i j j = true) := by
  have := T.2.2.2.2.1 i j j
  rw [Nat.or_assoc, Nat.or_self] at this
  rw [or_nI, nI_inj this T.2.2.1, ← T.2.2.2.2.2 i j j hi hj hj, Nat.or_assoc, Nat.or_self]
theorem TT.u3 (T : TT σ n A ty t) {i j k : Nat} (hi : i < n) (hj : j < n) (hk : k < n) : (nI (ty i ||| ty j) ||| nI (ty k) = nI A) = (t i j k = true) := by
  rw [or_nI, nI_inj (T.2.2.2.2.1 i j k) T.2.2.1, ← T.2.2.2.2.2 i j k hi hj hk]
theorem s_w8 {kk : Int32 → St → Option (Int32 × St)} (T : TT σ n A ty t) : ∀ (m N i : Nat), i + m = n → mX11_fewestTelling_8 kk (N + m + 1) (nI A) (nI i) σ = rsO (fs (fun a => fC t a a a) i m) σ (kk (nI A) σ)
  | 0, N, i, e => by
    have h30 := T.1
    rw [show N + 0 + 1 = N + 1 from rfl, mX11_fewestTelling_8, T.2.1, if_neg (nI_nlt (by omega) (by omega))]
    rfl
  | m + 1, N, i, e => by
    have h30 := T.1
    have hi : i < n := by omega
    rw [show N + (m + 1) + 1 = (N + m + 1) + 1 from rfl, mX11_fewestTelling_8, T.2.1, if_pos (nI_lt (by omega) (by omega)), gd_t (ib_nI (by omega) (by decide))]
    simp only [nx_nI (show i < 2 ^ 31 by omega), T.2.2.2.1 i hi, T.u1 hi]
    cases c : t i i i with
    | true =>
      rw [if_pos rfl, shl1_nI (by omega), fs_s (x := 2 ^ i) (by unfold fC ift; rw [c, st3_1]; rfl)]
      rfl
    | false =>
      rw [if_neg Bool.false_ne_true, lt_t, li1, nI_add, fs_n (by unfold fC ift; rw [c]; rfl)]
      exact s_w8 T m N (i + 1) (by omega)
theorem s_pb (T : TT σ n A ty t) {v2 : Int32} {p : Nat → Bool} {bd' : Nat} (hb : bd' ≤ n) (hp : ∀ l, l < bd' → (v2 ||| nI (ty l) = nI A) = (p l = true)) : ∀ (m N i : Nat), i + m = bd' → mX11_partnerBelow_3 (N + m + 1) (nI bd') v2 (nI A) (nI i) σ = some (oe1 (fs (fun l => ift (p l) l) i m), σ)
  | 0, N, i, e => by
    have h30 := T.1
    rw [show N + 0 + 1 = N + 1 from rfl, mX11_partnerBelow_3, if_neg (nI_nlt (by omega) (by omega))]
    rfl
  | m + 1, N, i, e => by
    have h30 := T.1
    have hi : i < n := by omega
    rw [show N + (m + 1) + 1 = (N + m + 1) + 1 from rfl, mX11_partnerBelow_3, if_pos (nI_lt (by omega) (by omega)), gd_t (ib_nI (by omega) (by decide))]
    simp only [nx_nI (show i < 2 ^ 31 by omega), T.2.2.2.1 i hi, hp i (by omega)]
    cases c : p i with
    | true =>
      rw [if_pos rfl, fs_s (x := i) (by rw [c]; rfl)]
      rfl
    | false =>
      rw [if_neg Bool.false_ne_true, lt_t, li1, nI_add, fs_n (by rw [c]; rfl)]
      exact s_pb T hb hp m N (i + 1) (by omega)
theorem s_pbl (T : TT σ n A ty t) {v2 : Int32} {p : Nat → Bool} {bd' : Nat} (hb : bd' ≤ n) (hp : ∀ l, l < bd' → (v2 ||| nI (ty l) = nI A) = (p l = true)) : mX11_partnerBelow (nI bd') v2 (nI A) σ = some (oe1 (fs (fun l => ift (p l) l) 0 bd'), σ) := by
  have h30 := T.1
  have L := s_pb T hb hp bd' (19999 - bd') 0 (by omega)
  rw [show 19999 - bd' + bd' + 1 = FU by unfold FU; omega] at L
  exact L
theorem ift_mem {p : Nat → Bool} {m l : Nat} (h : fs (fun l => ift (p l) l) 0 m = some l) : l < m := by
  obtain ⟨j, h1, h2, h3⟩ := fs_mem m 0 h
  unfold ift at h3
  split at h3
  · cases h3; omega
  · cases h3
theorem s_w41 {k84 : Int32 → St → Option (Int32 × St)} (T : TT σ n A ty t) : ∀ (m N i : Nat), (i + m = n ∨ (m = 0 ∧ n ≤ i ∧ i < 99)) → mX11_fewestTelling_41 mX11_fewestTelling_70 k84 (N + m + 1) (nI A) (nI i) σ = rsO (fs (fun a => fs (fun b => fC t a b b) 0 a) i m) σ (k84 (nI A) σ)
  | 0, N, i, e => by
    have h30 := T.1
    rw [show N + 0 + 1 = N + 1 from rfl, mX11_fewestTelling_41, T.2.1, if_neg (nI_nlt (by omega) (by omega))]
    rfl
  | m + 1, N, i, e => by
    have h30 := T.1
    have hi : i < n := by omega
    rw [show N + (m + 1) + 1 = (N + m + 1) + 1 from rfl, mX11_fewestTelling_41, T.2.1, if_pos (nI_lt (by omega) (by omega)), gd_t (ib_nI (by omega) (by decide)), nx_nI (by omega), T.2.2.2.1 i hi, s_pbl T (p := fun l => t i l l) (by omega) (fun l hl => T.u2 hi (by omega)), bd_t]
    have M := fs_map (p := fun l => t i l l) (g := fun l => st3 i l l) i 0
    cases c : fs (fun l => ift (t i l l) l) 0 i with
    | some l =>
      have hl := ift_mem c
      rw [c] at M
      rw [fs_s (x := st3 i l l) (by rw [show (fs (fun b => fC t i b b) 0 i) = fs (fun l => ift (t i l l) (st3 i l l)) 0 i from rfl, M]; rfl)]
      rw [if_neg (show ¬ oe1 (some l) = -1 from nI_m1 (by omega))]
      unfold mX11_fewestTelling_70
      rw [show oe1 (some l) = nI l from rfl, shl1_nI (by omega), shl1_nI (by omega), or_nI]
      show some (nI (2 ^ i ||| 2 ^ l), σ) = some (nI (st3 i l l), σ)
      unfold st3
      rw [Nat.or_assoc, Nat.or_self]
    | none =>
      rw [c] at M
      rw [fs_n (by rw [show (fs (fun b => fC t i b b) 0 i) = fs (fun l => ift (t i l l) (st3 i l l)) 0 i from rfl, M]; rfl)]
      rw [if_pos (show oe1 none = -1 from rfl), lt_t, li1, nI_add]
      exact s_w41 T m N (i + 1) (by omega)
theorem s_w99 {k150 : Int32 → Int32 → St → Option (Int32 × St)} (T : TT σ n A ty t) {i : Nat} (hi : i < n) : ∀ (q N j : Nat), (j + q = i ∨ (q = 0 ∧ i ≤ j ∧ j < 99)) → mX11_fewestTelling_99 mX11_fewestTelling_131 k150 (N + q + 1) (nI A) (nI i) (nI j) σ = rsO (fs (fun b => fs (fC t i b) 0 b) j q) σ (k150 (nI A) (nI i) σ)
  | 0, N, j, e => by
    have h30 := T.1
    rw [show N + 0 + 1 = N + 1 from rfl, mX11_fewestTelling_99, if_neg (nI_nlt (by omega) (by omega))]
    rfl
  | q + 1, N, j, e => by
    have h30 := T.1
    rw [show N + (q + 1) + 1 = (N + q + 1) + 1 from rfl, mX11_fewestTelling_99, if_pos (nI_lt (by omega) (by omega)), gd_t (ib_nI (by omega) (by decide)), gd_t (ib_nI (by omega) (by decide)), nx_nI (by omega), nx_nI (by omega), T.2.2.2.1 i hi, T.2.2.2.1 j (by omega), or_nI, s_pbl T (p := fun l => t i j l) (by omega) (fun l hl => T.u3 hi (by omega) (by omega)), bd_t]
    have M := fs_map (p := fun l => t i j l) (g := fun l => st3 i j l) j 0
    cases c : fs (fun l => ift (t i j l) l) 0 j with
    | some l =>
      have hl := ift_mem c
      rw [c] at M
      rw [fs_s (x := st3 i j l) (by rw [show (fs (fC t i j) 0 j) = fs (fun l => ift (t i j l) (st3 i j l)) 0 j from rfl, M]; rfl)]
      rw [if_neg (show ¬ oe1 (some l) = -1 from nI_m1 (by omega))]
      unfold mX11_fewestTelling_131
      rw [show oe1 (some l) = nI l from rfl, shl1_nI (by omega), shl1_nI (by omega), shl1_nI (by omega), or_nI, or_nI]
      rfl
    | none =>
      rw [c] at M
      rw [fs_n (by rw [show (fs (fC t i j) 0 j) = fs (fun l => ift (t i j l) (st3 i j l)) 0 j from rfl, M]; rfl)]
      rw [if_pos (show oe1 none = -1 from rfl), lt_t, li1, nI_add]
      exact s_w99 T hi q N (j + 1) (by omega)
theorem s_w86 (T : TT σ n A ty t) : ∀ (m N i : Nat), (i + m = n ∨ (m = 0 ∧ n ≤ i ∧ i < 99)) → mX11_fewestTelling_86 mX11_fewestTelling_131 (N + m + 1) (nI A) (nI i) σ = rsO (fs (fun a => fs (fun b => fs (fC t a b) 0 b) 0 a) i m) σ (some (-9, σ))
  | 0, N, i, e => by
    have h30 := T.1
    rw [show N + 0 + 1 = N + 1 from rfl, mX11_fewestTelling_86, T.2.1, if_neg (nI_nlt (by omega) (by omega))]
    rfl
  | m + 1, N, i, e => by
    have h30 := T.1
    have hi : i < n := by omega
    have K := s_w99 (k150 := mX11_fewestTelling_150 mX11_fewestTelling_131 (mX11_fewestTelling_86 mX11_fewestTelling_131 (N + m + 1))) T hi (i - 1) (19999 - (i - 1)) 1 (by omega)
    rw [show 19999 - (i - 1) + (i - 1) + 1 = FU by unfold FU; omega, ← fs_0n (f := fun b => fs (fC t i b) 0 b) rfl i] at K
    rw [show N + (m + 1) + 1 = (N + m + 1) + 1 from rfl, mX11_fewestTelling_86, T.2.1, if_pos (nI_lt (by omega) (by omega)), show (1 : Int32) = nI 1 from rfl, K]
    cases c : fs (fun b => fs (fC t i b) 0 b) 0 i with
    | some x => rw [fs_s (f := fun a => fs (fun b => fs (fC t a b) 0 b) 0 a) c]; rfl
    | none =>
      rw [fs_n (f := fun a => fs (fun b => fs (fC t a b) 0 b) 0 a) c]
      show mX11_fewestTelling_150 mX11_fewestTelling_131 (mX11_fewestTelling_86 mX11_fewestTelling_131 (N + m + 1)) (nI A) (nI i) σ = _
      unfold mX11_fewestTelling_150
      rw [lt_t, li1, nI_add]
      exact s_w86 T m N (i + 1) (by omega)
theorem s_fewest (T : TT σ n A ty t) (h0 : 0 < A) : mX11_fewestTelling (nI A) σ = some (oe (oE (fs (fA t 1) 0 n) (oE (fs (fA t 2) 0 n) (fs (fA t 3) 0 n))), σ) := by
  have h30 := T.1
  have h1 := T.2.2.1
  unfold mX11_fewestTelling
  have W1 := s_w8 (kk := mX11_fewestTelling_39) T n (19999 - n) 0 (by omega)
  rw [show 19999 - n + n + 1 = FU by unfold FU; omega] at W1
  have W2 := s_w41 (k84 := mX11_fewestTelling_84) T (n - 1) (19999 - (n - 1)) 1 (by omega)
  rw [show 19999 - (n - 1) + (n - 1) + 1 = FU by unfold FU; omega, ← fs_0n (f := fun a => fs (fun b => fC t a b b) 0 a) rfl n] at W2
  have W3 := s_w86 T (n - 1 - 1) (19999 - (n - 1 - 1)) 2 (by omega)
  rw [show 19999 - (n - 1 - 1) + (n - 1 - 1) + 1 = FU by unfold FU; omega, ← fs_1n (f := fun a => fs (fun b => fs (fC t a b) 0 b) 0 a) (by rw [fs_one]; rfl) (n - 1), ← fs_0n (f := fun a => fs (fun b => fs (fC t a b) 0 b) 0 a) rfl n] at W3
  rw [if_neg (nI_nz h0 h1), show (0 : Int32) = nI 0 from rfl, W1]
  unfold mX11_fewestTelling_39
  rw [show (1 : Int32) = nI 1 from rfl, W2]
  unfold mX11_fewestTelling_84
  rw [show (2 : Int32) = nI 2 from rfl, W3]
  rw [fs_ext n 0 (fun a _ _ => fA1 t a), fs_ext n 0 (fun a _ _ => fA2 t a), fs_ext n 0 (fun a _ _ => fA3 t a)]
  cases fs (fun a => fC t a a a) 0 n with
  | some x => rfl
  | none =>
    cases fs (fun a => fs (fun b => fC t a b b) 0 a) 0 n with
    | some x => rfl
    | none =>
      cases fs (fun a => fs (fun b => fs (fC t a b) 0 b) 0 a) 0 n with
      | some x => rfl
      | none => rfl
end

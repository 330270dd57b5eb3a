/-! pure: a plank on a side that isn't crossed changes nothing; the fewest planks -/
section
variable {sh sh' : Nat → Nat → Bool} {hg gr : Nat → Nat} {w fo came i size n s : Nat} {D : Nat → Bool}
def JJ (hi : Nat) (D : Nat → Bool) (q q' : Nat × Nat) : Prop := q = q' ∨ (D q.1 = true ∧ q.1 ≠ 4 ∧ q.2 ≤ q'.2 ∧ q.2 < hi ∧ (q'.1 = 4 → q'.2 = hi))
theorem wst_rm (hD : ∀ v, v < 4 → sh' i v = (sh i v || D v)) {q q' : Nat × Nat} (J : JJ (hg i) D q q') (h2 : q.2 ≤ hg i) (h3 : q.1 ≠ 4 → q.2 < hg i) (k4 : q'.1 = 4 → q'.2 = hg i) {v : Nat} (hv : v < 4) : JJ (hg i) D (wst sh hg w i came q v) (wst sh' hg w i came q' v) := by
  unfold wst
  rw [hD v hv]
  cases hs : sh i v with
  | true => rw [if_pos rfl, Bool.true_or, if_pos rfl]; exact J
  | false =>
    rw [if_neg Bool.false_ne_true, Bool.false_or]
    cases hd : D v with
    | true =>
      rw [if_pos rfl]
      by_cases c : hg (nbr w i v) < q.2 ∨ (hg (nbr w i v) = q.2 ∧ q.1 ≠ 4 ∧ v = came)
      · rw [if_pos c]
        refine Or.inr ⟨hd, by show v ≠ 4; omega, ?_, ?_, k4⟩
        · show hg (nbr w i v) ≤ q'.2
          rcases J with rfl | ⟨-, -, j, -⟩
          · rcases c with c | c <;> omega
          · rcases c with c | c <;> omega
        · show hg (nbr w i v) < hg i
          rcases c with c | ⟨c, c2, -⟩
          · omega
          · have := h3 c2; omega
      · rw [if_neg c]; exact J
    | false =>
      rw [if_neg Bool.false_ne_true]
      rcases J with rfl | ⟨j1, j2, j3, j4, j5⟩
      · exact Or.inl rfl
      · by_cases c : hg (nbr w i v) < q.2 ∨ (hg (nbr w i v) = q.2 ∧ q.1 ≠ 4 ∧ v = came)
        · have c' : hg (nbr w i v) < q'.2 ∨ (hg (nbr w i v) = q'.2 ∧ q'.1 ≠ 4 ∧ v = came) := by
            rcases c with c | ⟨c, c2, c3⟩
            · exact Or.inl (by omega)
            · rcases (show hg (nbr w i v) < q'.2 ∨ hg (nbr w i v) = q'.2 by omega) with z | z
              · exact Or.inl z
              · exact Or.inr ⟨z, fun e => by have := j5 e; omega, c3⟩
          rw [if_pos c, if_pos c']
          exact Or.inl rfl
        · rw [if_neg c]
          split
          · refine Or.inr ⟨j1, j2, ?_, j4, fun e => by have : v = 4 := e; omega⟩
            show q.2 ≤ hg (nbr w i v)
            have : ¬ hg (nbr w i v) < q.2 := fun z => c (Or.inl z)
            omega
          · exact Or.inr ⟨j1, j2, j3, j4, j5⟩
theorem wayK_4 : ∀ k, k ≤ 4 → (wayK sh hg w fo came i k).1 = 4 → (wayK sh hg w fo came i k).2 = hg i
  | 0, _, _ => rfl
  | k + 1, hk, e => by
    have ih := wayK_4 k (by omega)
    have ho := ord_lt (fo := fo) (k := k) (by omega)
    unfold wayK wst at e ⊢
    split at e
    · rename_i c; rw [if_pos c]; exact ih e
    · rename_i c
      rw [if_neg c]
      split at e
      · have : ord fo k = 4 := e
        omega
      · rename_i c2; rw [if_neg c2]; exact ih e
theorem wayK_rm (hD : ∀ v, v < 4 → sh' i v = (sh i v || D v)) : ∀ k, k ≤ 4 → JJ (hg i) D (wayK sh hg w fo came i k) (wayK sh' hg w fo came i k)
  | 0, _ => Or.inl rfl
  | k + 1, hk => wst_rm hD (wayK_rm hD k (by omega)) (wayK_le k (by omega)).2 (fun e => (wayK_low k (by omega) e).2.2.2) (wayK_4 k (by omega)) (ord_lt (by omega))
theorem wayA_rm (hD : ∀ v, v < 4 → sh' i v = (sh i v || D v)) (hc : wayA sh hg w fo came i ≠ 4 → D (wayA sh hg w fo came i) = false) : wayA sh' hg w fo came i = wayA sh hg w fo came i := by
  rcases wayK_rm (hg := hg) (w := w) (fo := fo) (came := came) hD 4 (by decide) with e | ⟨j1, j2, -⟩
  · unfold wayA; rw [e]
  · have := hc j2
    unfold wayA at this
    rw [j1] at this
    cases this
theorem rolA_rm (hD : ∀ j v, v < 4 → sh' j v = (sh j v || (sid w j v == s))) : ∀ (f i came st pa : Nat), s ∉ rolC sh hg gr w size fo f i came → rolA sh' hg gr w size fo f i came st pa = rolA sh hg gr w size fo f i came st pa
  | 0, _, _, _, _, _ => rfl
  | f + 1, i, came, st, pa, h => by
    unfold rolA
    unfold rolC at h
    by_cases c1 : size ≤ gr i
    · rw [if_pos c1, if_pos c1]
    · rw [if_neg c1] at h
      rw [if_neg c1, if_neg c1]
      have e : wayA sh' hg w fo came i = wayA sh hg w fo came i := by
        refine wayA_rm (D := fun v => sid w i v == s) (fun v hv => hD i v hv) (fun h4 => ?_)
        rw [if_neg h4, List.mem_cons, not_or] at h
        exact beq_eq_false_iff_ne.mpr (fun q => h.1 q.symm)
      rw [e]
      by_cases c2 : wayA sh hg w fo came i = 4
      · rw [if_pos c2, if_pos c2]
      · rw [if_neg c2, List.mem_cons, not_or] at h
        rw [if_neg c2, if_neg c2]
        exact rolA_rm hD f _ _ _ _ h.2
theorem rolC_len : ∀ (f i came : Nat), (rolC sh hg gr w size fo f i came).length ≤ f
  | 0, _, _ => Nat.le_refl _
  | f + 1, i, came => by
    unfold rolC
    split
    · exact Nat.zero_le _
    · split
      · exact Nat.zero_le _
      · rw [List.length_cons]; have := rolC_len f (nbr w i (wayA sh hg w fo came i)) (wayA sh hg w fo came i); omega
theorem rolC_mem (hn : ∀ i v, i < n → v < 4 → sh i v = false → nbr w i v < n) {x : Nat} : ∀ (f i came : Nat), i < n → x ∈ rolC sh hg gr w size fo f i came → ∃ j v, j < n ∧ v < 4 ∧ sh j v = false ∧ x = sid w j v
  | 0, _, _, _, h => by cases h
  | f + 1, i, came, hi, h => by
    unfold rolC at h
    split at h
    · cases h
    · split at h
      · cases h
      · rename_i c
        obtain ⟨w1, w2, w3⟩ := wayA_low c
        rcases List.mem_cons.mp h with e | e
        · exact ⟨i, _, hi, w2, w1, e⟩
        · exact rolC_mem hn f _ _ (hn i _ hi w2 w1) e
end
def omin (a : Option Nat) (x : Nat) : Option Nat := match a with
  | none => some x
  | some y => if x < y then some x else some y
def cd (c o : Nat) : Nat := min c o * 100 + max c o
def sk2 (e2 : Nat → Nat → Bool) (c : Nat) : List Nat → Option Nat → Option Nat
  | [], b => b
  | o :: L, b => sk2 e2 c L (if e2 c o then omin b (cd c o) else b)
def sk (e1 : Nat → Bool) (e2 : Nat → Nat → Bool) (RC : Nat → List Nat) : List Nat → Option Nat → Option Nat → Option Nat × Option Nat
  | [], a, b => (a, b)
  | c :: L, a, b => if e1 c then sk e1 e2 RC L (omin a c) b else if a.isSome then sk e1 e2 RC L a b else sk e1 e2 RC L a (sk2 e2 c (RC c) b)
/-- the least of those of which p holds, and what was there -/
def LST (p : Nat → Prop) (o : Option Nat) : Prop := (o = none → ∀ x, ¬ p x) ∧ ∀ x, o = some x → p x ∧ ∀ y, p y → x ≤ y
theorem LST.mn {p : Nat → Prop} {o : Option Nat} (h : LST p o) (z : Nat) : LST (fun x => p x ∨ x = z) (omin o z) := by
  cases o with
  | none =>
    refine ⟨fun e => (by cases e), fun x e => ?_⟩
    cases e
    exact ⟨Or.inr rfl, fun y hy => hy.elim (fun q => absurd q (h.1 rfl y)) (fun q => by omega)⟩
  | some y =>
    obtain ⟨h1, h2⟩ := h.2 y rfl
    show LST _ (if z < y then some z else some y)
    by_cases c : z < y
    · rw [if_pos c]
      refine ⟨fun e => (by cases e), fun x e => ?_⟩
      cases e
      exact ⟨Or.inr rfl, fun u hu => hu.elim (fun q => by have := h2 u q; omega) (fun q => by omega)⟩
    · rw [if_neg c]
      refine ⟨fun e => (by cases e), fun x e => ?_⟩
      cases e
      exact ⟨Or.inl h1, fun u hu => hu.elim (fun q => h2 u q) (fun q => by omega)⟩
theorem LST.cg {p p' : Nat → Prop} {o : Option Nat} (h : LST p o) (e : ∀ x, p x ↔ p' x) : LST p' o := ⟨fun z x hx => h.1 z x ((e x).mpr hx), fun x hx => ⟨(e x).mp (h.2 x hx).1, fun y hy => (h.2 x hx).2 y ((e y).mpr hy)⟩⟩
theorem LST.uniq {p : Nat → Prop} {o o' : Option Nat} (h : LST p o) (h' : LST p o') : o = o' := by
  cases o with
  | none =>
    cases o' with
    | none => rfl
    | some x => exact absurd (h'.2 x rfl).1 (h.1 rfl x)
  | some x =>
    cases o' with
    | none => exact absurd (h.2 x rfl).1 (h'.1 rfl x)
    | some y =>
      have h1 := (h.2 x rfl).2 y (h'.2 y rfl).1
      have h2 := (h'.2 y rfl).2 x (h.2 x rfl).1
      rw [show x = y by omega]
theorem sk2_L {e2 : Nat → Nat → Bool} {c : Nat} : ∀ (L : List Nat) (b : Option Nat) (p : Nat → Prop), LST p b → LST (fun x => p x ∨ ∃ o, o ∈ L ∧ e2 c o = true ∧ x = cd c o) (sk2 e2 c L b)
  | [], b, p, h => h.cg (fun x => ⟨fun q => Or.inl q, fun q => q.elim id (fun ⟨o, ho, _⟩ => by cases ho)⟩)
  | o :: L, b, p, h => by
    unfold sk2
    cases ho : e2 c o with
    | true =>
      rw [if_pos rfl]
      refine (sk2_L L _ _ (h.mn (cd c o))).cg (fun x => ?_)
      constructor
      · rintro ((q | q) | ⟨u, u1, u2, u3⟩)
        · exact Or.inl q
        · exact Or.inr ⟨o, List.mem_cons.mpr (Or.inl rfl), ho, q⟩
        · exact Or.inr ⟨u, List.mem_cons.mpr (Or.inr u1), u2, u3⟩
      · rintro (q | ⟨u, u1, u2, u3⟩)
        · exact Or.inl (Or.inl q)
        · rcases List.mem_cons.mp u1 with rfl | u1
          · exact Or.inl (Or.inr u3)
          · exact Or.inr ⟨u, u1, u2, u3⟩
    | false =>
      rw [if_neg Bool.false_ne_true]
      refine (sk2_L L _ _ h).cg (fun x => ?_)
      constructor
      · rintro (q | ⟨u, u1, u2, u3⟩)
        · exact Or.inl q
        · exact Or.inr ⟨u, List.mem_cons.mpr (Or.inr u1), u2, u3⟩
      · rintro (q | ⟨u, u1, u2, u3⟩)
        · exact Or.inl q
        · rcases List.mem_cons.mp u1 with rfl | u1
          · rw [ho] at u2; cases u2
          · exact Or.inr ⟨u, u1, u2, u3⟩
theorem sk_L {e1 : Nat → Bool} {e2 : Nat → Nat → Bool} {RC : Nat → List Nat} : ∀ (L : List Nat) (a b : Option Nat) (p1 p2 : Nat → Prop), LST p1 a → (a = none → LST p2 b) → LST (fun x => p1 x ∨ (x ∈ L ∧ e1 x = true)) (sk e1 e2 RC L a b).1 ∧ ((sk e1 e2 RC L a b).1 = none → LST (fun x => p2 x ∨ ∃ c o, c ∈ L ∧ o ∈ RC c ∧ e2 c o = true ∧ x = cd c o) (sk e1 e2 RC L a b).2)
  | [], a, b, p1, p2, h1, h2 => ⟨h1.cg (fun x => ⟨fun q => Or.inl q, fun q => q.elim id (fun ⟨u, _⟩ => by cases u)⟩), fun e => (h2 e).cg (fun x => ⟨fun q => Or.inl q, fun q => q.elim id (fun ⟨c, o, u, _⟩ => by cases u)⟩)⟩
  | c :: L, a, b, p1, p2, h1, h2 => by
    unfold sk
    cases hc : e1 c with
    | true =>
      rw [if_pos rfl]
      obtain ⟨k1, k2⟩ := sk_L (RC := RC) (e2 := e2) L (omin a c) b _ p2 (h1.mn c) (fun e => by
        cases a with
        | none => cases e
        | some y =>
          have e' : (if c < y then some c else some y) = none := e
          split at e' <;> cases e')
      have kk := k1.cg (p' := fun x => p1 x ∨ (x ∈ c :: L ∧ e1 x = true)) (fun x => by
        constructor
        · rintro ((q | q) | ⟨q1, q2⟩)
          · exact Or.inl q
          · exact Or.inr ⟨List.mem_cons.mpr (Or.inl q), by rw [q]; exact hc⟩
          · exact Or.inr ⟨List.mem_cons.mpr (Or.inr q1), q2⟩
        · rintro (q | ⟨q1, q2⟩)
          · exact Or.inl (Or.inl q)
          · rcases List.mem_cons.mp q1 with rfl | q1
            · exact Or.inl (Or.inr rfl)
            · exact Or.inr ⟨q1, q2⟩)
      exact ⟨kk, fun e => absurd ⟨List.mem_cons.mpr (Or.inl rfl), hc⟩ (fun z => kk.1 e c (Or.inr z))⟩
    | false =>
      rw [if_neg Bool.false_ne_true]
      have m1 : ∀ x, (p1 x ∨ (x ∈ L ∧ e1 x = true)) ↔ (p1 x ∨ (x ∈ c :: L ∧ e1 x = true)) := by
        intro x
        constructor
        · rintro (q | ⟨q1, q2⟩)
          · exact Or.inl q
          · exact Or.inr ⟨List.mem_cons.mpr (Or.inr q1), q2⟩
        · rintro (q | ⟨q1, q2⟩)
          · exact Or.inl q
          · rcases List.mem_cons.mp q1 with rfl | q1
            · rw [hc] at q2; cases q2
            · exact Or.inr ⟨q1, q2⟩
      cases a with
      | some y =>
        rw [if_pos (show (some y).isSome = true from rfl)]
        obtain ⟨k1, k2⟩ := sk_L (RC := RC) (e2 := e2) L (some y) b p1 p2 h1 (fun e => by cases e)
        have kk := k1.cg m1
        exact ⟨kk, fun e => absurd (Or.inl (h1.2 y rfl).1) (kk.1 e y)⟩
      | none =>
        rw [if_neg (by decide)]
        obtain ⟨k1, k2⟩ := sk_L (RC := RC) (e1 := e1) L none (sk2 e2 c (RC c) b) p1 _ h1 (fun _ => sk2_L (RC c) b p2 (h2 rfl))
        refine ⟨k1.cg m1, fun e => (k2 e).cg (fun x => ?_)⟩
        constructor
        · rintro ((q | ⟨o, q1, q2, q3⟩) | ⟨c', o, q1, q2, q3, q4⟩)
          · exact Or.inl q
          · exact Or.inr ⟨c, o, List.mem_cons.mpr (Or.inl rfl), q1, q2, q3⟩
          · exact Or.inr ⟨c', o, List.mem_cons.mpr (Or.inr q1), q2, q3, q4⟩
        · rintro (q | ⟨c', o, q1, q2, q3, q4⟩)
          · exact Or.inl (Or.inl q)
          · rcases List.mem_cons.mp q1 with rfl | q1
            · exact Or.inl (Or.inr ⟨o, q2, q3, q4⟩)
            · exact Or.inr ⟨c', o, q1, q2, q3, q4⟩
theorem fs_LST {p : Nat → Bool} : ∀ (m i : Nat), LST (fun x => i ≤ x ∧ x < i + m ∧ p x = true) (fs (fun s => ift (p s) s) i m)
  | 0, i => ⟨fun _ x q => by omega, fun x e => by cases e⟩
  | m + 1, i => by
    cases h : p i with
    | true =>
      rw [fs_s (x := i) (by rw [h]; rfl)]
      refine ⟨fun e => (by cases e), fun x e => ?_⟩
      cases e
      exact ⟨⟨Nat.le_refl _, by omega, h⟩, fun y hy => hy.1⟩
    | false =>
      rw [fs_n (by rw [h]; rfl)]
      refine (fs_LST m (i + 1)).cg (fun x => ?_)
      constructor
      · rintro ⟨a, b, c⟩
        exact ⟨by omega, by omega, c⟩
      · rintro ⟨a, b, c⟩
        refine ⟨?_, by omega, c⟩
        rcases (show x = i ∨ i + 1 ≤ x by omega) with rfl | q
        · rw [h] at c; cases c
        · exact q
def M2 (fr : Nat → Bool) (e2 : Nat → Nat → Bool) (N s : Nat) : Option Nat := if fr s then fs (fun t => ift (fr t && e2 s t) (s * 100 + t)) (s + 1) (N - (s + 1)) else none
theorem M2_LST {fr : Nat → Bool} {e2 : Nat → Nat → Bool} {N s : Nat} : LST (fun x => ∃ t, s < t ∧ t < N ∧ fr s = true ∧ fr t = true ∧ e2 s t = true ∧ x = s * 100 + t) (M2 fr e2 N s) := by
  unfold M2
  cases h : fr s with
  | false => rw [if_neg Bool.false_ne_true]; exact ⟨fun _ x ⟨t, _, _, q, _⟩ => (by cases q), fun x e => by cases e⟩
  | true =>
    rw [if_pos rfl, fs_map (p := fun t => fr t && e2 s t) (g := fun t => s * 100 + t)]
    have L := fs_LST (p := fun t => fr t && e2 s t) (N - (s + 1)) (s + 1)
    generalize fs (fun l => ift (fr l && e2 s l) l) (s + 1) (N - (s + 1)) = o at L
    cases o with
    | none =>
      refine ⟨fun _ x ⟨t, q1, q2, q3, q4, q5, q6⟩ => L.1 rfl t ⟨by omega, by omega, by rw [q4, q5]; rfl⟩, fun x e => by cases e⟩
    | some t =>
      obtain ⟨⟨l1, l2, l3⟩, l4⟩ := L.2 t rfl
      rw [Bool.and_eq_true] at l3
      refine ⟨fun e => (by cases e), fun x e => ?_⟩
      cases e
      refine ⟨⟨t, by omega, by omega, rfl, l3.1, l3.2, rfl⟩, ?_⟩
      rintro y ⟨u, q1, q2, q3, q4, q5, rfl⟩
      have := l4 u ⟨by omega, by omega, by rw [q4, q5]; rfl⟩
      show s * 100 + t ≤ s * 100 + u
      omega
theorem fs2_LST {fr : Nat → Bool} {e2 : Nat → Nat → Bool} {N : Nat} (hN : N ≤ 60) : ∀ (m i : Nat), i + m = N → LST (fun x => ∃ s t, i ≤ s ∧ s < t ∧ t < N ∧ fr s = true ∧ fr t = true ∧ e2 s t = true ∧ x = s * 100 + t) (fs (M2 fr e2 N) i m)
  | 0, i, e => ⟨fun _ x ⟨s, t, q1, q2, q3, _⟩ => by omega, fun x e => by cases e⟩
  | m + 1, i, e => by
    have A := M2_LST (fr := fr) (e2 := e2) (N := N) (s := i)
    cases h : M2 fr e2 N i with
    | some x =>
      rw [fs_s h]
      rw [h] at A
      obtain ⟨⟨t, a1, a2, a3, a4, a5, a6⟩, a7⟩ := A.2 x rfl
      refine ⟨fun e => (by cases e), fun y ey => ?_⟩
      cases ey
      refine ⟨⟨i, t, Nat.le_refl _, a1, a2, a3, a4, a5, a6⟩, ?_⟩
      rintro z ⟨s, u, q1, q2, q3, q4, q5, q6, rfl⟩
      rcases (show s = i ∨ i < s by omega) with rfl | q
      · exact a7 _ ⟨u, q2, q3, q4, q5, q6, rfl⟩
      · omega
    | none =>
      rw [fs_n h]
      rw [h] at A
      refine (fs2_LST hN m (i + 1) (by omega)).cg (fun x => ?_)
      constructor
      · rintro ⟨s, t, q1, q2⟩
        exact ⟨s, t, by omega, q2⟩
      · rintro ⟨s, t, q1, q2, q3, q4⟩
        rcases (show s = i ∨ i + 1 ≤ s by omega) with rfl | q
        · exact absurd ⟨t, q2, q3, q4⟩ (A.1 rfl x)
        · exact ⟨s, t, q, q2, q3, q4⟩
/-- the class's search finds what the reference's finds -/
theorem sk_fs {fr : Nat → Bool} {e1 : Nat → Bool} {e2 : Nat → Nat → Bool} {N : Nat} {L : List Nat} {RC : Nat → List Nat} (hN : N ≤ 60) (h1 : ∀ c, c ∈ L → fr c = true ∧ c < N) (h2 : ∀ c, fr c = true → c < N → ∀ o, o ∈ RC c → fr o = true ∧ o ≠ c ∧ o < N) (h3 : ∀ s, s < N → s ∉ L → e1 s = false) (h4 : ∀ s t, s ∉ L → t ∉ L → e2 s t = false) (h5 : ∀ c o, o ∉ RC c → e2 c o = e1 c) (h6 : ∀ s t, e2 s t = e2 t s) : (sk e1 e2 RC L none none).1 = fs (fun s => ift (fr s && e1 s) s) 0 N ∧ ((sk e1 e2 RC L none none).1 = none → (sk e1 e2 RC L none none).2 = fs (M2 fr e2 N) 0 N) := by
  obtain ⟨k1, k2⟩ := sk_L (e1 := e1) (e2 := e2) (RC := RC) L none none (fun _ => False) (fun _ => False) ⟨fun _ _ z => z, fun x e => by cases e⟩ (fun _ => ⟨fun _ _ z => z, fun x e => by cases e⟩)
  have m1 := fs_LST (p := fun s => fr s && e1 s) N 0
  refine ⟨(k1.cg (fun x => ?_)).uniq m1, fun e => ((k2 e).cg (fun x => ?_)).uniq (fs2_LST hN N 0 (by omega))⟩
  · constructor
    · rintro (q | ⟨q1, q2⟩)
      · exact q.elim
      · exact ⟨Nat.zero_le _, by have := (h1 x q1).2; omega, by rw [(h1 x q1).1, q2]; rfl⟩
    · rintro ⟨-, q1, q2⟩
      rw [Bool.and_eq_true] at q2
      refine Or.inr ⟨?_, q2.2⟩
      by_cases c : x ∈ L
      · exact c
      · have := h3 x (by omega) c
        rw [q2.2] at this
        cases this
  · have no : ∀ c, c ∈ L → e1 c = false := by
      intro c hc
      cases he : e1 c with
      | false => rfl
      | true => exact absurd (Or.inr ⟨hc, he⟩) (k1.1 e c)
    constructor
    · rintro (q | ⟨c, o, q1, q2, q3, q4⟩)
      · exact q.elim
      · obtain ⟨u1, u2⟩ := h1 c q1
        obtain ⟨v1, v2, v3⟩ := h2 c u1 u2 o q2
        unfold cd at q4
        rcases (show c < o ∨ o < c by omega) with z | z
        · rw [Nat.min_eq_left (by omega), Nat.max_eq_right (by omega)] at q4
          exact ⟨c, o, Nat.zero_le _, z, v3, u1, v1, q3, q4⟩
        · rw [Nat.min_eq_right (by omega), Nat.max_eq_left (by omega)] at q4
          exact ⟨o, c, Nat.zero_le _, z, u2, v1, u1, by rw [h6]; exact q3, q4⟩
    · rintro ⟨s, t, -, q1, q2, q3, q4, q5, q6⟩
      have key : ∀ c o, c ∈ L → e2 c o = true → o ∈ RC c := by
        intro c o hc he
        by_cases z : o ∈ RC c
        · exact z
        · rw [h5 c o z, no c hc] at he; cases he
      by_cases cs : s ∈ L
      · refine Or.inr ⟨s, t, cs, key s t cs q5, q5, ?_⟩
        unfold cd
        rw [Nat.min_eq_left (by omega), Nat.max_eq_right (by omega)]; exact q6
      · by_cases ct : t ∈ L
        · have q5' : e2 t s = true := by rw [h6]; exact q5
          refine Or.inr ⟨t, s, ct, key t s ct q5', q5', ?_⟩
          unfold cd
          rw [Nat.min_eq_right (by omega), Nat.max_eq_left (by omega)]; exact q6
        · have := h4 s t cs ct
          rw [q5] at this
          cases this

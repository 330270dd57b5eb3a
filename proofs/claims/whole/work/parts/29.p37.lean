/-! pure: planks, the search of the class; the call -/
def RW (σ : St) (r : Nat) (L : List Nat) : Prop := σ r 2 = nI L.length ∧ (∀ j, j < L.length → σ (r + 1) j = nI (L.getD j 0)) ∧ L.length ≤ 10
theorem RW.fr {σ σ' : St} {r : Nat} {L : List Nat} (R : RW σ r L) (hs : ∀ j, σ' r j = σ r j) (hs2 : ∀ j, σ' (r + 1) j = σ (r + 1) j) : RW σ' r L := ⟨by rw [hs]; exact R.1, fun j hj => by rw [hs2]; exact R.2.1 j hj, R.2.2⟩
theorem drop_c {L : List Nat} {j : Nat} (hj : j < L.length) : L.drop j = L.getD j 0 :: L.drop (j + 1) ∧ L.getD j 0 ∈ L := by
  have e : L.getD j 0 = L[j] := by simp [hj]
  rw [e]
  exact ⟨List.drop_eq_getElem_cons hj, List.getElem_mem hj⟩
theorem rolA_ext {sh sh' : Nat → Nat → Bool} {hg gr : Nat → Nat} {w fo size n : Nat} (hn : ∀ i v, i < n → v < 4 → sh i v = false → nbr w i v < n) (hD : ∀ j v, j < n → v < 4 → sh' j v = sh j v) : ∀ (f i came st pa : Nat), i < n → rolA sh' hg gr w size fo f i came st pa = rolA sh hg gr w size fo f i came st pa
  | 0, _, _, _, _, _ => rfl
  | f + 1, i, came, st, pa, hi => by
    unfold rolA
    have e : wayA sh' hg w fo came i = wayA sh hg w fo came i := wayA_rm (D := fun _ => false) (fun v hv => by rw [hD i v hi hv, Bool.or_false]) (fun _ => rfl)
    rw [e]
    by_cases c1 : size ≤ gr i
    · rw [if_pos c1, if_pos c1]
    · rw [if_neg c1, if_neg c1]
      by_cases c2 : wayA sh hg w fo came i = 4
      · rw [if_pos c2, if_pos c2]
      · obtain ⟨w1, w2, w3⟩ := wayA_low c2
        rw [if_neg c2, if_neg c2]
        exact rolA_ext hn hD f _ _ _ _ (hn i _ hi w2 w1)
section
variable {σ0 σ τ σ' τ' : St} {w h gn kn kE kS tl sn d t1 t2 n : Nat} {gr sz wo fo tx sk' sf st hg li pb pbx : Nat → Nat} {g : Gr} {P : Nat → Gr} {sh : Nat → Nat → Bool}
theorem s_goR (X : SX σ w h sh hg gr kn sz fo) {r k i : Nat} (hr : 59 ≤ r) (hk : k < kn) (hi : i < w * h) : ∃ σ', mX8_goAs r (nI k) (nI i) σ = some (0, σ') ∧ σ' r 0 = nI (rl sh hg gr w (sz k) (fo k) i).1 ∧ RW σ' r (rolC sh hg gr w (sz k) (fo k) 10 i 4) ∧ ∀ a b, a ≠ r → a ≠ r + 1 → σ' a b = σ a b := by
  obtain ⟨σ1, e1, e2, -, e3, -, e4, e5⟩ := s_goAs X hr hk hi
  have ln := rolC_len (sh := sh) (hg := hg) (gr := gr) (w := w) (size := sz k) (fo := fo k) 10 i 4
  refine ⟨σ1, e1, e2, ⟨?_, fun j hj => ?_, ln⟩, e5⟩
  · rw [e3]
    show nI (rolA sh hg gr w (sz k) (fo k) 10 i 4 0 (2 ^ i)).2.2.1 = _
    rw [rolA_steps, Nat.zero_add]
  · rw [e4 j]
    unfold wrl
    rw [if_pos (by omega), Nat.sub_zero]
/-- a side that is free, as the class and the reference know it -/
theorem fre_of {c : Nat} (hf : fre w h kE kS pb c = true) : edge w h (c / 2) (if c % 2 = 0 then 1 else 2) = false ∧ kerb kE kS c = false ∧ plk pb c = false := by
  unfold fre at hf
  cases h1 : edge w h (c / 2) (if c % 2 = 0 then 1 else 2) with
  | true => rw [h1] at hf; cases hf
  | false =>
    cases h2 : kerb kE kS c with
    | true => rw [h1, h2] at hf; cases hf
    | false =>
      cases h3 : plk pb c with
      | true => rw [h1, h2, h3] at hf; cases hf
      | false => exact ⟨rfl, rfl, rfl⟩
def RC (w h kE kS : Nat) (pb hg gr : Nat → Nat) (size f0 i a : Nat) : List Nat := rolC (shutA w h kE kS pb a 99) hg gr w size f0 10 i 4
theorem open_of {j v a : Nat} (ho : shutA w h kE kS pb a 99 j v = false) : edge w h j v = false ∧ kerb kE kS (sid w j v) = false ∧ plk pb (sid w j v) = false ∧ sid w j v ≠ a := by
  unfold shutA at ho
  cases h1 : edge w h j v with
  | true => rw [h1] at ho; cases ho
  | false =>
    cases h2 : kerb kE kS (sid w j v) with
    | true => rw [h1, h2] at ho; cases ho
    | false =>
      cases h3 : plk pb (sid w j v) with
      | true => rw [h1, h2, h3] at ho; cases ho
      | false =>
        refine ⟨rfl, rfl, rfl, fun e => ?_⟩
        rw [h1, h2, h3, beq_iff_eq.mpr e] at ho
        cases ho
theorem RC_free {size f0 i a x : Nat} (hi : i < w * h) (hx : x ∈ RC w h kE kS pb hg gr size f0 i a) : fre w h kE kS pb x = true ∧ x ≠ a ∧ x < 2 * (w * h) := by
  obtain ⟨j, v, h1, h2, h3, h4⟩ := rolC_mem (n := w * h) (fun i v hi hv hs => nbr_lt (pos_of hi) hi hv (open_of hs).1) 10 i 4 hi hx
  obtain ⟨o1, o2, o3, o4⟩ := open_of h3
  obtain ⟨u1, u2⟩ := sid_half h1 h2 o1
  rw [h4]
  refine ⟨?_, o4, by omega⟩
  unfold fre
  rw [u2, o2, o3]
  rfl
theorem E2_alt (h30 : w * h ≤ 30) {size f0 i a b : Nat} (hi : i < w * h) : (rl (fun j v => (shutA w h kE kS pb a 99 j v || (sid w j v == b))) hg gr w size f0 i).1 = E2 w h kE kS pb hg gr size f0 i a b := by
  unfold E2 rl
  rw [rolA_ext (n := w * h) (sh := shutA w h kE kS pb a b) (fun i v hi hv hs => ?_) (fun j v hj hv => (shutA_st a b j v (by have := sid_lt (v := v) hj h30; omega)).symm) 10 i 4 0 (2 ^ i) hi]
  refine nbr_lt (pos_of hi) hi hv ?_
  unfold shutA at hs
  cases h1 : edge w h i v with
  | true => rw [h1] at hs; cases hs
  | false => rfl
theorem s_sec (cv : CV w h gn kn kE kS gr sz wo fo tl tx sn sk' sf st) (is : IS σ0 w h gn kn kE kS gr sz wo fo tl tx sn sk' sf st) (hh : ∀ i, i < 30 → g 0 i ≤ 9) (h30 : w * h ≤ 30) (hp : ∀ j, g 5 j < 4) {k i dd c : Nat} (hk : k < kn) (hi : i < w * h) (hd : dd < 2 ^ 31) (hc : fre w h kE kS (g 5) c = true) (hc2 : c < 2 * (w * h)) : ∀ (m N j : Nat) (b : Option Nat) (σ : St), ZZ σ0 σ w h g (tog (g 5) c) → ENC σ none b → RW σ 64 (RC w h kE kS (g 5) (g 0) gr (sz k) (fo k) i c) → j + m = (RC w h kE kS (g 5) (g 0) gr (sz k) (fo k) i c).length → ∃ σ', mX6_seekSecond_3 (N + m + 1) (nI k) (nI i) (nI dd) (nI c) (nI j) σ = some (0, σ') ∧ ZZ σ0 σ' w h g (tog (g 5) c) ∧ ENC σ' none (sk2 (fun a b => E2 w h kE kS (g 5) (g 0) gr (sz k) (fo k) i a b == dd) c ((RC w h kE kS (g 5) (g 0) gr (sz k) (fo k) i c).drop j) b) ∧ ∀ a q, a = 62 ∨ a = 63 → σ' a q = σ a q
  | 0, N, j, b, σ, Z, E, R, e => by
    have ln := R.2.2
    refine ⟨σ, ?_, Z, ?_, fun _ _ _ => rfl⟩
    · rw [show N + 0 + 1 = N + 1 from rfl, mX6_seekSecond_3, R.1, if_neg (nI_nlt (by omega) (by omega))]
    · rw [List.drop_eq_nil_of_le (by omega)]; exact E
  | m + 1, N, j, b, σ, Z, E, R, e => by
    have ln := R.2.2
    obtain ⟨dc, mem⟩ := drop_c (L := RC w h kE kS (g 5) (g 0) gr (sz k) (fo k) i c) (j := j) (by omega)
    obtain ⟨o, ho⟩ : ∃ o, o = (RC w h kE kS (g 5) (g 0) gr (sz k) (fo k) i c).getD j 0 := ⟨_, rfl⟩
    have Rj := R.2.1 j (by omega)
    rw [← ho] at dc mem Rj
    obtain ⟨f1, f2, f3⟩ := RC_free hi mem
    obtain ⟨a1, a2, a3⟩ := fre_of f1
    obtain ⟨-, -, cp⟩ := fre_of hc
    obtain ⟨σ1, g1, g2, g3⟩ := s_side is h30 Z (s := o) (by omega) a1
    have X1 := SX.of2 cv (is.fr2 (σ' := σ1) (fun p q hpq => g2.1 p q (by omega) (by omega) (by omega))) g2.2.1 hh
    obtain ⟨σ2, u1, u2, -, u4⟩ := s_goR X1 (r := 66) (by omega) hk hi
    have l := X1.lt (size := sz k) (f0 := fo k) hi
    have Z2 : ZZ σ0 σ2 w h g (tog (tog (g 5) c) o) := g2.fr (fun p q hpq => u4 p q (by omega) (by omega))
    have En : (rl (shutA w h kE kS (tog (tog (g 5) c) o) 99 99) (g 0) gr w (sz k) (fo k) i).1 = E2 w h kE kS (g 5) (g 0) gr (sz k) (fo k) i c o := by
      rw [shutA_tog2 hp cp a3 f2]
      exact E2_alt h30 hi
    rw [En] at u2 l
    have E1' : ENC σ2 none b := (E.fr (σ' := σ1) (fun q => g3 61 q (by omega) (by omega))).fr (fun q => u4 61 q (by omega) (by omega))
    -- what is found is offered
    have step : ∃ σ3, (if nI (E2 w h kE kS (g 5) (g 0) gr (sz k) (fo k) i c o) = nI dd then (bd (mX6_offerTwo (i_min (nI c) (nI o)) (i_max (nI c) (nI o)) σ2) fun _ s14 => mX6_seekSecond_76 (mX6_seekSecond_3 (N + m + 1)) (nI k) (nI i) (nI dd) (nI c) (nI j) (nI o) s14) else mX6_seekSecond_76 (mX6_seekSecond_3 (N + m + 1)) (nI k) (nI i) (nI dd) (nI c) (nI j) (nI o) σ2) = mX6_seekSecond_76 (mX6_seekSecond_3 (N + m + 1)) (nI k) (nI i) (nI dd) (nI c) (nI j) (nI o) σ3 ∧ ENC σ3 none (if (E2 w h kE kS (g 5) (g 0) gr (sz k) (fo k) i c o == dd) = true then omin b (cd c o) else b) ∧ ∀ p q, p ≠ 61 → σ3 p q = σ2 p q := by
      simp only [nI_inj (show E2 w h kE kS (g 5) (g 0) gr (sz k) (fo k) i c o < 2 ^ 31 by omega) hd]
      by_cases q : E2 w h kE kS (g 5) (g 0) gr (sz k) (fo k) i c o = dd
      · obtain ⟨σ3, v1, v2, v3⟩ := s_off2 E1' (c := c) (o := o) (by omega) (by omega)
        refine ⟨σ3, by rw [if_pos q, v1, bd_t], ?_, v3⟩
        rw [beq_iff_eq.mpr q, if_pos rfl]; exact v2
      · refine ⟨σ2, by rw [if_neg q], ?_, fun _ _ _ => rfl⟩
        rw [beq_eq_false_iff_ne.mpr q, if_neg Bool.false_ne_true]; exact E1'
    obtain ⟨σ3, w1, w2, w3⟩ := step
    have Z3 : ZZ σ0 σ3 w h g (tog (tog (g 5) c) o) := Z2.fr (fun p q hpq => w3 p q (by omega))
    obtain ⟨σ4, x1, x2, x3⟩ := s_side is h30 Z3 (s := o) (by omega) a1
    rw [tog_tog] at x2
    have keep : ∀ p q, 61 < p → p < 66 → σ4 p q = σ p q := fun p q h1 h2 => by rw [x3 p q (by omega) (by omega), w3 p q (by omega), u4 p q (by omega) (by omega), g3 p q (by omega) (by omega)]
    obtain ⟨σ5, y1, y2, y3, y4⟩ := s_sec cv is hh h30 hp hk hi hd hc hc2 m N (j + 1) _ σ4 x2 (w2.fr (fun q => x3 61 q (by omega) (by omega))) (R.fr (fun q => keep 64 q (by omega) (by omega)) (fun q => keep 65 q (by omega) (by omega))) (by omega)
    refine ⟨σ5, ?_, y2, ?_, fun a q ha => by rw [y4 a q ha, keep a q (by omega) (by omega)]⟩
    · rw [show N + (m + 1) + 1 = (N + m + 1) + 1 from rfl, mX6_seekSecond_3, R.1, if_pos (nI_lt (by omega) (by omega)), gd_t (ib_nI (by omega) (by decide)), nx_nI (by omega), show σ 65 j = nI o from Rj, lt_t, g1, bd_t, u1, bd_t, u2, w1]
      unfold mX6_seekSecond_76
      rw [x1, bd_t, lt_t, li1, nI_add]
      exact y1
    · rw [dc]; exact y3
end

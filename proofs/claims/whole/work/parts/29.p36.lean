/-! pure: planks, the class -/
theorem rolC_rm {sh sh' : Nat → Nat → Bool} {hg gr : Nat → Nat} {w fo size s : Nat} (hD : ∀ j v, v < 4 → sh' j v = (sh j v || (sid w j v == s))) : ∀ (f i came : Nat), s ∉ rolC sh hg gr w size fo f i came → rolC sh' hg gr w size fo f i came = rolC sh hg gr w size fo f i came
  | 0, _, _, _ => rfl
  | f + 1, i, came, h => by
    unfold rolC at h ⊢
    by_cases c1 : size ≤ gr i
    · rw [if_pos c1, if_pos c1]
    · rw [if_neg c1] at h
      rw [if_neg c1, if_neg c1]
      have e : wayA sh' hg w fo came i = wayA sh hg w fo came i := by
        refine wayA_rm (D := fun v => sid w i v == s) (fun v hv => hD i v hv) (fun h4 => ?_)
        rw [if_neg h4, List.mem_cons, not_or] at h
        exact beq_eq_false_iff_ne.mpr (fun q => h.1 q.symm)
      rw [e]
      by_cases c2 : wayA sh hg w fo came i = 4
      · rw [if_pos c2, if_pos c2]
      · rw [if_neg c2, List.mem_cons, not_or] at h
        rw [if_neg c2, if_neg c2, rolC_rm hD f _ _ h.2]
theorem bl1 (e k p a x : Bool) : (e || (k || (p || (a || x)))) = ((e || (k || (p || (x || x)))) || a) := by cases e <;> cases k <;> cases p <;> cases a <;> cases x <;> rfl
theorem bl2 (e k p a b x : Bool) : (e || (k || (p || (a || b)))) = ((e || (k || (p || (a || x)))) || b) ∨ x = true := by cases e <;> cases k <;> cases p <;> cases a <;> cases b <;> cases x <;> simp
section
variable {σ0 σ τ σ' τ' : St} {w h gn kn kE kS tl sn d t1 t2 n : Nat} {gr sz wo fo tx sk sf st hg li pb pbx : Nat → Nat} {g : Gr} {P : Nat → Gr} {sh : Nat → Nat → Bool}
theorem shutA_s (a j v : Nat) : shutA w h kE kS pb a 99 j v = (shutA w h kE kS pb 99 99 j v || (sid w j v == a)) := bl1 _ _ _ _ _
theorem shutA_st (a b : Nat) (j v : Nat) (h9 : sid w j v ≠ 99) : shutA w h kE kS pb a b j v = (shutA w h kE kS pb a 99 j v || (sid w j v == b)) := by
  unfold shutA
  rcases bl2 (edge w h j v) (kerb kE kS (sid w j v)) (plk pb (sid w j v)) (sid w j v == a) (sid w j v == b) (sid w j v == 99) with q | q
  · exact q
  · exact absurd (beq_iff_eq.mp q) h9
theorem shutA_comm (a b : Nat) : shutA w h kE kS pb a b = shutA w h kE kS pb b a := by
  funext j v
  unfold shutA
  rw [Bool.or_comm (sid w j v == a)]
theorem shutA_tog (hp : ∀ j, pb j < 4) {c : Nat} (hc : plk pb c = false) : shutA w h kE kS (tog pb c) 99 99 = shutA w h kE kS pb c 99 := by
  funext j v
  unfold shutA
  rw [plk_tog hp]
  by_cases q : sid w j v = c
  · rw [if_pos q, q, hc, beq_self_eq_true]; simp
  · rw [if_neg q, beq_eq_false_iff_ne.mpr q]; simp
theorem tog_tog (pb : Nat → Nat) (s : Nat) : tog (tog pb s) s = pb := by
  funext j
  unfold tog
  by_cases c : j = s / 2
  · rw [if_pos c, if_pos c, xor_back]
  · rw [if_neg c, if_neg c]
theorem shutA_tog2 (hp : ∀ j, pb j < 4) {c o : Nat} (hc : plk pb c = false) (ho : plk pb o = false) (hco : o ≠ c) : shutA w h kE kS (tog (tog pb c) o) 99 99 = fun j v => (shutA w h kE kS pb c 99 j v || (sid w j v == o)) := by
  have h2 : plk (tog pb c) o = false := by rw [plk_tog hp, if_neg hco]; exact ho
  rw [shutA_tog (fun j => tog_lt hp c j) h2]
  funext j v
  rw [shutA_s o j v, shutA_tog hp hc]
theorem SX.of2 (cv : CV w h gn kn kE kS gr sz wo fo tl tx sn sk sf st) (is : IS σ w h gn kn kE kS gr sz wo fo tl tx sn sk sf st) (sg : SGg σ w h (gup g 5 pbx)) (hh : ∀ i, i < 30 → g 0 i ≤ 9) : SX σ w h (shutA w h kE kS pbx 99 99) (g 0) gr kn sz fo := by
  obtain ⟨c1, c2, c3, c4, c5, c6, c7, c8, c9, c10, c11⟩ := cv
  obtain ⟨b1, b2, b3, b4, b5, b6, b7, b8, b9, b10, b11⟩ := is
  have s3 := sg.2
  have h30 : w * h ≤ 30 := Nat.mul_le_mul (by omega : w ≤ 6) (by omega : h ≤ 5)
  refine ⟨⟨h30, fun i hi => ?_, fun i v hi hv hs => ?_, fun i hi => ⟨(s3 i hi).1, hh i (by omega)⟩, fun i hi => ⟨(b9 i hi).2.1, c6 i (by omega)⟩, b3, by omega⟩, b4, b5, by omega, c5, b7, fun k hk => ⟨(b10 k hk).1, (b10 k hk).2.2, (c7 k hk).2.1, (c7 k hk).2.2.2.2⟩⟩
  · have hb := bits4 (edge w h i 0 || kerb kE kS (sid w i 0)) (edge w h i 1 || kerb kE kS (sid w i 1)) (edge w h i 2 || kerb kE kS (sid w i 2)) (edge w h i 3 || kerb kE kS (sid w i 3)) (!edge w h i 0 && plk pbx (sid w i 0)) (!edge w h i 1 && plk pbx (sid w i 1)) (!edge w h i 2 && plk pbx (sid w i 2)) (!edge w h i 3 && plk pbx (sid w i 3))
    refine ⟨kway w h kE kS i 4 ||| pway w h pbx i 4, hb.1, ?_, fun v hv => ?_⟩
    · rw [(b9 i hi).1, (s3 i hi).2.1, or_nI]; rfl
    · rw [shutA_99 hi h30]
      rcases four hv with rfl | rfl | rfl | rfl
      · rw [← or_shut]; exact hb.2.1
      · rw [← or_shut]; exact hb.2.2.1
      · rw [← or_shut]; exact hb.2.2.2.1
      · rw [← or_shut]; exact hb.2.2.2.2
  · have he : edge w h i v = false := by
      unfold shutA at hs
      cases h : edge w h i v with
      | true => rw [h] at hs; cases hs
      | false => rfl
    refine ⟨?_, nbr_lt (pos_of hi) hi hv he, fun h0 => ?_, fun h3 => ?_⟩
    · have := (b9 i hi).2.2 v hv
      rw [he, if_neg Bool.false_ne_true] at this
      exact this
    · subst h0; exact not_edge0 he
    · subst h3; exact not_edge3 he
/-- while the class searches -/
def ZZ (σ0 σ : St) (w h : Nat) (g : Gr) (pbx : Nat → Nat) : Prop := (∀ i j, ¬ (i = 26 ∧ j = 0) → i ≠ 28 → ¬ (61 ≤ i ∧ i ≤ 67) → σ i j = σ0 i j) ∧ SGg σ w h (gup g 5 pbx) ∧ ∀ j, pbx j < 4
theorem ZZ.fr (Z : ZZ σ0 σ w h g pbx) (hs : ∀ i j, ¬ (61 ≤ i ∧ i ≤ 67) → σ' i j = σ i j) : ZZ σ0 σ' w h g pbx := ⟨fun i j h1 h2 h3 => by rw [hs i j h3]; exact Z.1 i j h1 h2 h3, Z.2.1.fr (fun i j hij => hs i j (by omega)), Z.2.2⟩
theorem s_side (is : IS σ0 w h gn kn kE kS gr sz wo fo tl tx sn sk sf st) (h30 : w * h ≤ 30) (Z : ZZ σ0 σ w h g pbx) {s : Nat} (hs : s / 2 < w * h) (he : edge w h (s / 2) (if s % 2 = 0 then 1 else 2) = false) : ∃ σ', mX6_turnSide (nI s) σ = some (0, σ') ∧ ZZ σ0 σ' w h g (tog pbx s) ∧ ∀ i j, ¬ (i = 26 ∧ j = 0) → i ≠ 28 → σ' i j = σ i j := by
  have hb : BS σ w h := fun i hi v hv => by rw [Z.1 14 _ (by omega) (by omega) (by omega)]; exact BS.of is i hi v hv
  have hsid : sid w (s / 2) (if s % 2 = 0 then 1 else 2) = s := by
    by_cases c : s % 2 = 0
    · rw [if_pos c]; show 2 * (s / 2) = s; omega
    · rw [if_neg c]; show 2 * (s / 2) + 1 = s; omega
  obtain ⟨σ1, e1, e2, e3⟩ := s_turn hb Z.2.1 Z.2.2 h30 hs (v := if s % 2 = 0 then 1 else 2) (by split <;> omega) he
  rw [hsid] at e2
  refine ⟨σ1, ?_, ⟨fun i j h1 h2 h3 => by rw [e3 i j h1 h2]; exact Z.1 i j h1 h2 h3, e2.cg (fun r _ i => ?_), fun j => tog_lt Z.2.2 s j⟩, e3⟩
  · unfold mX6_turnSide
    rw [li2, rem_nI (by omega) (by omega) (by omega), div_nI (by omega) (by omega) (by omega)]
    by_cases c : s % 2 = 0
    · rw [if_pos c] at e1
      rw [if_pos (by rw [c]; rfl), show (1 : Int32) = nI 1 from rfl, e1, bd_t]
    · rw [if_neg c] at e1
      rw [if_neg (nI_nz (by omega) (by omega)), e1, bd_t]
  · unfold gup
    by_cases c : r = 5
    · rw [if_pos c, if_pos c]; rfl
    · rw [if_neg c, if_neg c, if_neg c]
def ENC (σ : St) (a b : Option Nat) : Prop := match a with
  | some c => σ 61 0 = 1 ∧ σ 61 1 = nI c ∧ c < 60
  | none => match b with
    | some x => σ 61 0 = 2 ∧ σ 61 1 = nI (x / 100) ∧ σ 61 2 = nI (x % 100) ∧ x / 100 < 60
    | none => σ 61 0 = -9
theorem ENC.fr {a b : Option Nat} (E : ENC σ a b) (hs : ∀ j, σ' 61 j = σ 61 j) : ENC σ' a b := by
  cases a with
  | some c => exact ⟨by rw [hs]; exact E.1, by rw [hs]; exact E.2.1, E.2.2⟩
  | none =>
    cases b with
    | some x => exact ⟨by rw [hs]; exact E.1, by rw [hs]; exact E.2.1, by rw [hs]; exact E.2.2.1, E.2.2.2⟩
    | none => show σ' 61 0 = -9; rw [hs]; exact E
theorem s_off1 {a b : Option Nat} (E : ENC σ a b) {c : Nat} (hc : c < 60) : ∃ σ', mX6_offerOne (nI c) σ = some (0, σ') ∧ ENC σ' (omin a c) b ∧ ∀ i j, i ≠ 61 → σ' i j = σ i j := by
  have S : mX6_offerOne_16 (nI c) σ = some (0, s_up (s_up (s_up σ 61 0 1) 61 1 (nI c)) 61 2 (-1)) := rfl
  have S2 : ENC (s_up (s_up (s_up σ 61 0 1) 61 1 (nI c)) 61 2 (-1)) (some c) b := ⟨by rw [su_o (by omega), su_o (by omega), su_s], by rw [su_o (by omega), su_s], hc⟩
  have S3 : ∀ i j, i ≠ 61 → s_up (s_up (s_up σ 61 0 1) 61 1 (nI c)) 61 2 (-1) i j = σ i j := fun i j hi => by rw [su_o (by omega), su_o (by omega), su_o (by omega)]
  unfold mX6_offerOne
  cases a with
  | some y =>
    obtain ⟨e1, e2, e3⟩ := E
    rw [e1, if_pos rfl, e2]
    simp only [nI_ltp (show c < 2 ^ 31 by omega) (show y < 2 ^ 31 by omega)]
    by_cases q : c < y
    · rw [if_pos q]
      refine ⟨_, S, ?_, S3⟩
      show ENC _ (if c < y then some c else some y) b
      rw [if_pos q]; exact S2
    · rw [if_neg q]
      refine ⟨σ, rfl, ?_, fun _ _ _ => rfl⟩
      show ENC _ (if c < y then some c else some y) b
      rw [if_neg q]; exact ⟨e1, e2, e3⟩
  | none =>
    have : ¬ σ 61 0 = 1 := by
      cases b with
      | some x => rw [E.1]; decide
      | none => rw [show σ 61 0 = -9 from E]; decide
    rw [if_neg this]
    exact ⟨_, S, S2, S3⟩
theorem i_min_nI {a b : Nat} (ha : a < 100) (hb : b < 100) : i_min (nI a) (nI b) = nI (min a b) := by
  unfold i_min
  simp only [nI_ltp (show b < 2 ^ 31 by omega) (show a < 2 ^ 31 by omega)]
  split
  · rw [Nat.min_eq_right (by omega)]
  · rw [Nat.min_eq_left (by omega)]
theorem i_max_nI {a b : Nat} (ha : a < 100) (hb : b < 100) : i_max (nI a) (nI b) = nI (max a b) := by
  unfold i_max
  simp only [nI_ltp (show a < 2 ^ 31 by omega) (show b < 2 ^ 31 by omega)]
  split
  · rw [Nat.max_eq_right (by omega)]
  · rw [Nat.max_eq_left (by omega)]
theorem s_off2 {b : Option Nat} (E : ENC σ none b) {c o : Nat} (hc : c < 60) (ho : o < 60) : ∃ σ', mX6_offerTwo (i_min (nI c) (nI o)) (i_max (nI c) (nI o)) σ = some (0, σ') ∧ ENC σ' none (omin b (cd c o)) ∧ ∀ i j, i ≠ 61 → σ' i j = σ i j := by
  rw [i_min_nI (by omega) (by omega), i_max_nI (by omega) (by omega)]
  obtain ⟨lo, hlo⟩ : ∃ lo, lo = min c o := ⟨_, rfl⟩
  obtain ⟨hi, hhi⟩ : ∃ hi, hi = max c o := ⟨_, rfl⟩
  have l1 : lo < 60 := by omega
  have l2 : hi < 60 := by omega
  have hcd : cd c o = lo * 100 + hi := by unfold cd; rw [hlo, hhi]
  rw [← hlo, ← hhi, hcd]
  have S : mX6_offerTwo_33 (nI lo) (nI hi) σ = some (0, s_up (s_up (s_up σ 61 0 2) 61 1 (nI lo)) 61 2 (nI hi)) := rfl
  have S2 : ENC (s_up (s_up (s_up σ 61 0 2) 61 1 (nI lo)) 61 2 (nI hi)) none (some (lo * 100 + hi)) := by
    refine ⟨by rw [su_o (by omega), su_o (by omega), su_s], ?_, ?_, by omega⟩
    · rw [su_o (by omega), su_s]; congr 1; omega
    · rw [su_s]; congr 1; omega
  have S3 : ∀ i j, i ≠ 61 → s_up (s_up (s_up σ 61 0 2) 61 1 (nI lo)) 61 2 (nI hi) i j = σ i j := fun i j hi => by rw [su_o (by omega), su_o (by omega), su_o (by omega)]
  unfold mX6_offerTwo
  cases b with
  | none =>
    rw [if_pos (show σ 61 0 = -9 from E)]
    exact ⟨_, S, S2, S3⟩
  | some x =>
    obtain ⟨e1, e2, e3, e4⟩ := E
    rw [e1, if_neg (by decide), e2, e3]
    simp only [nI_ltp (show lo < 2 ^ 31 by omega) (show x / 100 < 2 ^ 31 by omega), nI_inj (show lo < 2 ^ 31 by omega) (show x / 100 < 2 ^ 31 by omega), nI_ltp (show hi < 2 ^ 31 by omega) (show x % 100 < 2 ^ 31 by omega)]
    show ∃ σ', _ = some (0, σ') ∧ ENC σ' none (if lo * 100 + hi < x then some (lo * 100 + hi) else some x) ∧ _
    by_cases q : lo * 100 + hi < x
    · rw [if_pos q]
      refine ⟨_, ?_, S2, S3⟩
      rw [← S]
      by_cases q1 : lo < x / 100
      · rw [if_pos q1]
      · rw [if_neg q1, if_pos (by omega), if_pos (by omega)]
    · rw [if_neg q]
      refine ⟨σ, ?_, ⟨e1, e2, e3, e4⟩, fun _ _ _ => rfl⟩
      rw [if_neg (by omega)]
      by_cases q1 : lo = x / 100
      · rw [if_pos q1, if_neg (by omega)]
      · rw [if_neg q1]
end

/-! pure: the invariant gives both rolls what they read -/
theorem bits4 : ∀ a0 a1 a2 a3 b0 b1 b2 b3 : Bool,
    ((((0 + if a0 then 2 ^ 0 else 0) + if a1 then 2 ^ 1 else 0) + if a2 then 2 ^ 2 else 0) + if a3 then 2 ^ 3 else 0) ||| ((((0 + if b0 then 2 ^ 0 else 0) + if b1 then 2 ^ 1 else 0) + if b2 then 2 ^ 2 else 0) + if b3 then 2 ^ 3 else 0) < 16 ∧
    kbit (((((0 + if a0 then 2 ^ 0 else 0) + if a1 then 2 ^ 1 else 0) + if a2 then 2 ^ 2 else 0) + if a3 then 2 ^ 3 else 0) ||| ((((0 + if b0 then 2 ^ 0 else 0) + if b1 then 2 ^ 1 else 0) + if b2 then 2 ^ 2 else 0) + if b3 then 2 ^ 3 else 0)) 0 = (a0 || b0) ∧
    kbit (((((0 + if a0 then 2 ^ 0 else 0) + if a1 then 2 ^ 1 else 0) + if a2 then 2 ^ 2 else 0) + if a3 then 2 ^ 3 else 0) ||| ((((0 + if b0 then 2 ^ 0 else 0) + if b1 then 2 ^ 1 else 0) + if b2 then 2 ^ 2 else 0) + if b3 then 2 ^ 3 else 0)) 1 = (a1 || b1) ∧
    kbit (((((0 + if a0 then 2 ^ 0 else 0) + if a1 then 2 ^ 1 else 0) + if a2 then 2 ^ 2 else 0) + if a3 then 2 ^ 3 else 0) ||| ((((0 + if b0 then 2 ^ 0 else 0) + if b1 then 2 ^ 1 else 0) + if b2 then 2 ^ 2 else 0) + if b3 then 2 ^ 3 else 0)) 2 = (a2 || b2) ∧
    kbit (((((0 + if a0 then 2 ^ 0 else 0) + if a1 then 2 ^ 1 else 0) + if a2 then 2 ^ 2 else 0) + if a3 then 2 ^ 3 else 0) ||| ((((0 + if b0 then 2 ^ 0 else 0) + if b1 then 2 ^ 1 else 0) + if b2 then 2 ^ 2 else 0) + if b3 then 2 ^ 3 else 0)) 3 = (a3 || b3) := by decide +kernel
theorem or_shut (e k p : Bool) : ((e || k) || (!e && p)) = (e || (k || p)) := by cases e <;> cases k <;> cases p <;> rfl
section
variable {σ τ : St} {w h gn kn kE kS tl sn d B : Nat} {gr sz wo fo tx sk sf st : Nat → Nat} {g : Gr} {P : Nat → Gr}
/-- planks t1, t2 are only thought of; 99: none -/
theorem shutA_99 {i v : Nat} {pb : Nat → Nat} (hi : i < w * h) (h30 : w * h ≤ 30) : shutA w h kE kS pb 99 99 i v = (edge w h i v || (kerb kE kS (sid w i v) || plk pb (sid w i v))) := by
  have := sid_lt (v := v) hi h30
  unfold shutA
  rw [show (sid w i v == 99) = false from by simp; omega]
  simp
theorem GV.le (V : GV w h kE kS g) {i : Nat} (hi : i < 30) : g 1 i ≤ 999 ∧ g 3 i ≤ 999 := by
  have s : ∀ (f : Nat → Nat) (n i : Nat), i < n → f i ≤ sumN f n := by
    intro f n
    induction n with
    | zero => intro i hi; omega
    | succ n ih =>
      intro i hi
      show f i ≤ sumN f n + f n
      rcases (show i < n ∨ i = n by omega) with h | h
      · have := ih i h; omega
      · subst h; omega
  have h1 := s (g 1) 30 i hi
  have h2 := s (g 3) 30 i hi
  have h3 := V.2.2.2.2.1
  omega
theorem MG.of (cv : CV w h gn kn kE kS gr sz wo fo tl tx sn sk sf st) (im : IM τ w h gn kn kE kS gr sz wo fo tl tx sn sk sf st) (mb : MB τ 0 g d P) (V : GV w h kE kS g) (hw : 0 < w) : MG τ w h kE kS (g 1) (g 5) 99 99 (g 0) gr := by
  obtain ⟨c1, c2, c3, c4, c5, c6, c7, c8, c9, c10, c11⟩ := cv
  obtain ⟨a1, a2, a3, a4, a5, a6, a7, a8, a9, a10, a11, a12, a13, a14⟩ := im
  obtain ⟨m1, m2, m3⟩ := mb
  have hwh : 0 < w ∧ w ≤ 6 ∧ 0 < h ∧ h ≤ 5 := by omega
  refine ⟨⟨a3, a4, a8, a9, hwh.1, hwh.2.1, hwh.2.2.1, hwh.2.2.2, c2, c3⟩, fun i hi => ?_, ⟨a12, a13, by omega, by omega⟩, fun i hi => ?_, fun i hi => ⟨a10 i hi, c6 i hi⟩⟩
  · obtain ⟨b1, b2, b3, b4, b5⟩ := m2 i hi
    have := (V.le hi).1
    exact ⟨by rw [show 31 + i = 0 + 1 + 30 + i by omega]; exact b2, by omega, V.2.1 i⟩
  · obtain ⟨b1, b2, b3, b4, b5⟩ := m2 i hi
    exact ⟨by rw [show 1 + i = 0 + 1 + i by omega]; exact b1, V.1 i hi⟩
theorem SR.of (cv : CV w h gn kn kE kS gr sz wo fo tl tx sn sk sf st) (is : IS σ w h gn kn kE kS gr sz wo fo tl tx sn sk sf st) (sg : SGo σ 26 w h g d P) (V : GV w h kE kS g) : SR σ w (w * h) (shutA w h kE kS (g 5) 99 99) (g 0) gr := by
  obtain ⟨c1, c2, c3, c4, c5, c6, c7, c8, c9, c10, c11⟩ := cv
  obtain ⟨b1, b2, b3, b4, b5, b6, b7, b8, b9, b10, b11⟩ := is
  obtain ⟨s1, s2, s3, s4⟩ := sg
  have h30 : w * h ≤ 30 := Nat.mul_le_mul (by omega : w ≤ 6) (by omega : h ≤ 5)
  refine ⟨h30, fun i hi => ?_, fun i v hi hv hs => ?_, fun i hi => ⟨(s3 i hi).1, V.1 i (by omega)⟩, fun i hi => ⟨(b9 i hi).2.1, c6 i (by omega)⟩, b3, by omega⟩
  · have hb := bits4 (edge w h i 0 || kerb kE kS (sid w i 0)) (edge w h i 1 || kerb kE kS (sid w i 1)) (edge w h i 2 || kerb kE kS (sid w i 2)) (edge w h i 3 || kerb kE kS (sid w i 3)) (!edge w h i 0 && plk (g 5) (sid w i 0)) (!edge w h i 1 && plk (g 5) (sid w i 1)) (!edge w h i 2 && plk (g 5) (sid w i 2)) (!edge w h i 3 && plk (g 5) (sid w i 3))
    refine ⟨kway w h kE kS i 4 ||| pway w h (g 5) i 4, hb.1, ?_, fun v hv => ?_⟩
    · rw [(b9 i hi).1, (s3 i hi).2.1, or_nI]
    · rw [shutA_99 hi h30]
      rcases four hv with rfl | rfl | rfl | rfl
      · rw [← or_shut]; exact hb.2.1
      · rw [← or_shut]; exact hb.2.2.1
      · rw [← or_shut]; exact hb.2.2.2.1
      · rw [← or_shut]; exact hb.2.2.2.2
  · have he : edge w h i v = false := by
      unfold shutA at hs
      cases h : edge w h i v with
      | true => rw [h] at hs; cases hs
      | false => rfl
    have hw : 0 < w := by
      rcases c1 with ⟨rfl, rfl⟩ | c1
      · simp at hi
      · exact c1.1
    refine ⟨?_, nbr_lt hw hi hv he, fun h0 => ?_, fun h3 => ?_⟩
    · have := (b9 i hi).2.2 v hv
      rw [he, if_neg Bool.false_ne_true] at this
      exact this
    · subst h0; exact not_edge0 he
    · subst h3; exact not_edge3 he
end

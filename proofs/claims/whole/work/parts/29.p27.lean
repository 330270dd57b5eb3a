/-! pure: a deed is noted; the invariant after a deed -/
theorem sft_s {d k : Nat} (hd : d ≤ 10) (hk : k + 1 < nd d) : sft d k < d ∧ (sft d k + 1 = d ↔ k + 2 = nd d) ∧ sft d (k + 1) = sft d k + 1 := by
  by_cases c : d = 10
  · have e1 : nd d = 10 := by unfold nd; rw [if_pos c]
    have e2 : ∀ k, sft d k = k + 1 := fun k => by unfold sft; rw [if_pos c]
    rw [e2, e2, e1]
    omega
  · have e1 : nd d = d + 1 := by unfold nd; rw [if_neg c]
    have e2 : ∀ k, sft d k = k := fun k => by unfold sft; rw [if_neg c]
    rw [e2, e2, e1]
    omega
section
variable {σ τ σ' τ' : St} {w h gn kn kE kS tl sn d t1 t2 n B : Nat} {gr sz wo fo tx sk sf st hg li pb : Nat → Nat} {g g' : Gr} {P P' : Nat → Gr} {sh : Nat → Nat → Bool}
theorem s_lose (r : Nat) (σ : St) : ∃ σ', mX3_loseOldest r 10 σ = some (0, σ') ∧ (∀ k, k < 9 → σ' r k = σ r (k + 1)) ∧ ∀ i j, i ≠ r → σ' i j = σ i j := by
  refine ⟨s_row σ r (va_cpy (σ r) (σ r) 1 0 9), ?_, fun k hk => ?_, fun i j hi => by rw [s_row_other σ hi]⟩
  · unfold mX3_loseOldest
    rw [gd_t (by decide), lt_t]
    rfl
  · rw [s_row_self, pk_cpy_in (by omega) (by omega)]
    congr 1
    omega
theorem s_note43 {p : Nat} (hp : p < 10) (e : σ 26 1 = nI p) (kd at_ mu wo : Int32) : ∃ σ', mX3_note_43 kd at_ mu wo σ = some (0, σ') ∧ σ' 26 1 = nI (p + 1) ∧ (∀ r, r < 4 → ∀ k, k ≠ p → σ' (33 + r) k = σ (33 + r) k) ∧ (σ' 33 p = kd ∧ σ' 34 p = at_ ∧ σ' 35 p = mu ∧ σ' 36 p = wo) ∧ ∀ i j, ¬ (i = 26 ∧ j = 1) → ¬ (33 ≤ i ∧ i ≤ 36) → σ' i j = σ i j := by
  refine ⟨s_up (s_up (s_up (s_up (s_up σ 33 p kd) 34 p at_) 35 p mu) 36 p wo) 26 1 (nI (p + 1)), ?_, su_s, fun r hr k hk => ?_, ⟨?_, ?_, ?_, ?_⟩, fun i j h1 h2 => ?_⟩
  · have e1 : s_up σ 33 p kd 26 1 = nI p := by rw [su_o (by omega)]; exact e
    have e2 : s_up (s_up σ 33 p kd) 34 p at_ 26 1 = nI p := by rw [su_o (by omega)]; exact e1
    have e3 : s_up (s_up (s_up σ 33 p kd) 34 p at_) 35 p mu 26 1 = nI p := by rw [su_o (by omega)]; exact e2
    have e4 : s_up (s_up (s_up (s_up σ 33 p kd) 34 p at_) 35 p mu) 36 p wo 26 1 = nI p := by rw [su_o (by omega)]; exact e3
    unfold mX3_note_43
    rw [e, gd_t (ib_nI hp (by decide)), nx_nI (by omega), lt_t, e1, gd_t (ib_nI hp (by decide)), nx_nI (by omega), lt_t, e2, gd_t (ib_nI hp (by decide)), nx_nI (by omega), lt_t, e3, gd_t (ib_nI hp (by decide)), nx_nI (by omega), lt_t, e4, lt_t, li1, nI_add]
  · rw [su_o (by omega), su_o (by omega), su_o (by omega), su_o (by omega), su_o (by omega)]
  · rw [su_o (by omega), su_o (by omega), su_o (by omega), su_o (by omega), su_s]
  · rw [su_o (by omega), su_o (by omega), su_o (by omega), su_s]
  · rw [su_o (by omega), su_o (by omega), su_s]
  · rw [su_o (by omega), su_s]
  · rw [su_o (by omega), su_o (by omega), su_o (by omega), su_o (by omega), su_o (by omega)]
theorem s_noteD (hd : d ≤ 10) (e : σ 26 1 = nI d) (kd at_ mu wo : Int32) : ∃ σ', mX3_note kd at_ mu wo σ = some (0, σ') ∧ σ' 26 1 = nI (nd d) ∧ (∀ r, r < 4 → ∀ k, k + 1 < nd d → σ' (33 + r) k = σ (33 + r) (sft d k)) ∧ (σ' 33 (nd d - 1) = kd ∧ σ' 34 (nd d - 1) = at_ ∧ σ' 35 (nd d - 1) = mu ∧ σ' 36 (nd d - 1) = wo) ∧ ∀ i j, ¬ (i = 26 ∧ j = 1) → ¬ (33 ≤ i ∧ i ≤ 36) → σ' i j = σ i j := by
  unfold mX3_note
  rw [e]
  by_cases c : d = 10
  · subst c
    obtain ⟨σ1, a1, a2, a3⟩ := s_lose 33 σ
    obtain ⟨σ2, b1, b2, b3⟩ := s_lose 34 σ1
    obtain ⟨σ3, c1, c2, c3⟩ := s_lose 35 σ2
    obtain ⟨σ4, d1, d2, d3⟩ := s_lose 36 σ3
    have e9 : s_up σ4 26 1 9 26 1 = nI 9 := by rw [su_s]; rfl
    obtain ⟨σ5, f1, f2, f3, f4, f5⟩ := s_note43 (σ := s_up σ4 26 1 9) (p := 9) (by decide) e9 kd at_ mu wo
    refine ⟨σ5, ?_, f2, fun r hr k hk => ?_, f4, fun i j h1 h2 => ?_⟩
    · rw [if_neg (show ¬ nI 10 < 10 by decide), a1, bd_t, b1, bd_t, c1, bd_t, d1, bd_t, lt_t]
      exact f1
    · have hk' : k < 9 := by unfold nd at hk; rw [if_pos rfl] at hk; omega
      rw [f3 r hr k (by omega), su_o (by omega)]
      show _ = σ (33 + r) (k + 1)
      rcases four hr with rfl | rfl | rfl | rfl
      · rw [d3 _ _ (by omega), c3 _ _ (by omega), b3 _ _ (by omega)]; exact a2 k hk'
      · rw [d3 _ _ (by omega), c3 _ _ (by omega), b2 k hk', a3 _ _ (by omega)]
      · rw [d3 _ _ (by omega), c2 k hk', b3 _ _ (by omega), a3 _ _ (by omega)]
      · rw [d2 k hk', c3 _ _ (by omega), b3 _ _ (by omega), a3 _ _ (by omega)]
    · rw [f5 i j h1 h2, su_o (by omega), d3 _ _ (by omega), c3 _ _ (by omega), b3 _ _ (by omega), a3 _ _ (by omega)]
  · have en : nd d = d + 1 := by unfold nd; rw [if_neg c]
    obtain ⟨σ5, f1, f2, f3, f4, f5⟩ := s_note43 (σ := σ) (p := d) (by omega) e kd at_ mu wo
    refine ⟨σ5, ?_, by rw [en]; exact f2, fun r hr k hk => ?_, by rw [en]; exact f4, f5⟩
    · rw [if_pos (show nI d < 10 from nI_lt (b := 10) (by omega) (by decide))]
      exact f1
    · rw [en] at hk
      rw [f3 r hr k (by omega)]
      unfold sft
      rw [if_neg c]
/-- the class's deeds -/
def SDe (σ : St) (w h : Nat) (g : Gr) (d : Nat) (P : Nat → Gr) : Prop := σ 26 1 = nI d ∧ ∀ k, k < d → ∃ kd at_ wo, σ 33 k = nI kd ∧ σ 34 k = nI at_ ∧ σ 36 k = nI wo ∧ UND w h kd at_ (σ 35 k) wo (if k + 1 = d then g else P (k + 1)) (P k)
/-- the class's ground -/
def SGg (σ : St) (w h : Nat) (g : Gr) : Prop := σ 26 0 = nI (pcnt (g 5) 60) ∧ ∀ i, i < w * h → σ 27 i = nI (g 0 i) ∧ σ 28 i = nI (pway w h (g 5) i 4) ∧ σ 29 i = nI (g 1 i) ∧ σ 30 i = nI (g 2 i) ∧ σ 31 i = nI (g 3 i) ∧ σ 32 i = nI (g 4 i)
theorem SGo.split (s : SGo σ 26 w h g d P) : SGg σ w h g ∧ SDe σ w h g d P := ⟨⟨s.1, s.2.2.1⟩, s.2.1, s.2.2.2⟩
theorem SGo.join (s : SGg σ w h g) (e : SDe σ w h g d P) : SGo σ 26 w h g d P := ⟨s.1, e.1, s.2, e.2⟩
theorem SDe.fr (e : SDe σ w h g d P) (hs : ∀ i j, (i = 26 ∧ j = 1) ∨ (33 ≤ i ∧ i ≤ 36) → σ' i j = σ i j) : SDe σ' w h g d P := by
  refine ⟨by rw [hs _ _ (by omega)]; exact e.1, fun k hk => ?_⟩
  rw [hs 35 _ (by omega)]
  obtain ⟨kd, at_, wo, a1, a2, a3, a4⟩ := e.2 k hk
  exact ⟨kd, at_, wo, by rw [hs _ _ (by omega)]; exact a1, by rw [hs _ _ (by omega)]; exact a2, by rw [hs _ _ (by omega)]; exact a3, a4⟩
theorem SGg.fr (s : SGg σ w h g) (hs : ∀ i j, (i = 26 ∧ j = 0) ∨ (27 ≤ i ∧ i ≤ 32) → σ' i j = σ i j) : SGg σ' w h g := by
  refine ⟨by rw [hs _ _ (by omega)]; exact s.1, fun i hi => ?_⟩
  rw [hs _ _ (by omega), hs _ _ (by omega), hs _ _ (by omega), hs _ _ (by omega), hs _ _ (by omega), hs _ _ (by omega)]
  exact s.2 i hi
/-- a deed is noted -/
theorem SDe.note (e : SDe σ w h g d P) (hd : d ≤ 10) {kd at_ wo : Nat} {mu : Int32} (u : UND w h kd at_ mu wo g' g) : ∃ σ', mX3_note (nI kd) (nI at_) mu (nI wo) σ = some (0, σ') ∧ SDe σ' w h g' (nd d) (nP d P g) ∧ ∀ i j, ¬ (i = 26 ∧ j = 1) → ¬ (33 ≤ i ∧ i ≤ 36) → σ' i j = σ i j := by
  obtain ⟨σ1, n1, n2, n3, ⟨n4, n5, n6, n7⟩, n8⟩ := s_noteD hd e.1 (nI kd) (nI at_) mu (nI wo)
  have hn := nd_le hd
  refine ⟨σ1, n1, ⟨n2, fun k hk => ?_⟩, n8⟩
  by_cases c : k + 1 = nd d
  · have ek : k = nd d - 1 := by omega
    rw [if_pos c]
    refine ⟨kd, at_, wo, by rw [ek]; exact n4, by rw [ek]; exact n5, by rw [ek]; exact n7, ?_⟩
    rw [ek, n6, ← ek]
    show UND w h kd at_ mu wo g' (if k + 1 = nd d then g else P (sft d k))
    rw [if_pos c]
    exact u
  · have q0 := n3 0 (by decide) k (by omega)
    have q1 := n3 1 (by decide) k (by omega)
    have q2 := n3 2 (by decide) k (by omega)
    have q3 := n3 3 (by decide) k (by omega)
    have hs := sft_s hd (show k + 1 < nd d by omega)
    obtain ⟨kd', at', wo', a1, a2, a3, a4⟩ := e.2 (sft d k) hs.1
    rw [if_neg c, q2]
    refine ⟨kd', at', wo', by rw [q0]; exact a1, by rw [q1]; exact a2, by rw [q3]; exact a3, ?_⟩
    show UND w h kd' at' _ wo' (if k + 1 + 1 = nd d then g else P (sft d (k + 1))) (if k + 1 = nd d then g else P (sft d k))
    rw [if_neg c, hs.2.2]
    by_cases c2 : k + 2 = nd d
    · rw [if_pos c2]
      rw [if_pos (hs.2.1.mpr c2)] at a4
      exact a4
    · rw [if_neg c2]
      rw [if_neg (fun z => c2 (hs.2.1.mp z))] at a4
      exact a4
theorem GV.past (V : GV w h kE kS g) (VP : ∀ k, k < d → GV w h kE kS (P k)) (hd : d ≤ 10) : ∀ k, k < nd d → GV w h kE kS (nP d P g k) := by
  intro k hk
  show GV w h kE kS (if k + 1 = nd d then g else P (sft d k))
  by_cases c : k + 1 = nd d
  · rw [if_pos c]; exact V
  · rw [if_neg c]
    exact VP _ (sft_s hd (by omega)).1
theorem IG.frI {b : Nat} (I : IG σ τ b B w h kE kS g d P) (hb : 37 ≤ b) (hb2 : b + 10 ≤ 58) (hB : 1673 ≤ B) (hs : ∀ i j, 37 ≤ i → i ≤ 58 → σ' i j = σ i j) (ht : ∀ j, 1673 ≤ j → τ' 1 j = τ 1 j) : IG σ' τ' b B w h kE kS g d P := by
  obtain ⟨⟨s1, s2, s3, s4⟩, ⟨m1, m2, m3⟩, rest⟩ := I
  refine ⟨⟨?_, ?_, fun i hi => ?_, fun k hk => ?_⟩, ⟨?_, fun i hi => ?_, fun k hk i hi => ?_⟩, rest⟩
  · rw [hs _ _ (by omega) (by omega)]; exact s1
  · rw [hs _ _ (by omega) (by omega)]; exact s2
  · rw [hs _ _ (by omega) (by omega), hs _ _ (by omega) (by omega), hs _ _ (by omega) (by omega), hs _ _ (by omega) (by omega), hs _ _ (by omega) (by omega), hs _ _ (by omega) (by omega)]; exact s3 i hi
  · rw [hs (b + 9) _ (by omega) (by omega)]
    obtain ⟨kd, at_, wo, a1, a2, a3, a4⟩ := s4 k hk
    exact ⟨kd, at_, wo, by rw [hs _ _ (by omega) (by omega)]; exact a1, by rw [hs _ _ (by omega) (by omega)]; exact a2, by rw [hs _ _ (by omega) (by omega)]; exact a3, a4⟩
  · rw [ht _ (by omega)]; exact m1
  · rw [ht _ (by omega), ht _ (by omega), ht _ (by omega), ht _ (by omega), ht _ (by omega)]; exact m2 i hi
  · rw [ht _ (by omega), ht _ (by omega), ht _ (by omega), ht _ (by omega), ht _ (by omega)]; exact m3 k hk i hi
theorem IS.fr2 (I : IS σ w h gn kn kE kS gr sz wo fo tl tx sn sk sf st) (hs : ∀ i j, i ≤ 1 ∨ (4 ≤ i ∧ i ≤ 6) ∨ (10 ≤ i ∧ i ≤ 17) → σ' i j = σ i j) : IS σ' w h gn kn kE kS gr sz wo fo tl tx sn sk sf st := by
  obtain ⟨a1, a2, a3, a4, a5, a6, a7, a8, a9, a10, a11⟩ := I
  refine ⟨by rw [hs _ _ (by omega)]; exact a1, fun j hj => by rw [hs _ _ (by omega)]; exact a2 j hj, by rw [hs _ _ (by omega)]; exact a3, by rw [hs _ _ (by omega)]; exact a4, by rw [hs _ _ (by omega)]; exact a5, by rw [hs _ _ (by omega)]; exact a6, by rw [hs _ _ (by omega)]; exact a7, by rw [hs _ _ (by omega)]; exact a8, fun i hi => ?_, fun k hk => ?_, fun k hk => ?_⟩
  · obtain ⟨b1, b2, b3⟩ := a9 i hi
    exact ⟨by rw [hs _ _ (by omega)]; exact b1, by rw [hs _ _ (by omega)]; exact b2, fun v hv => by rw [hs _ _ (by omega)]; exact b3 v hv⟩
  · rw [hs _ _ (by omega), hs _ _ (by omega), hs _ _ (by omega)]; exact a10 k hk
  · rw [hs _ _ (by omega), hs _ _ (by omega), hs _ _ (by omega)]; exact a11 k hk
theorem IM.fr2 (I : IM τ w h gn kn kE kS gr sz wo fo tl tx sn sk sf st) (ht : ∀ i j, i ≠ 1 → i ≠ 2 → ¬ (i = 0 ∧ 32 ≤ j ∧ j ≤ 34) → τ' i j = τ i j) : IM τ' w h gn kn kE kS gr sz wo fo tl tx sn sk sf st := by
  obtain ⟨a1, a2, a3, a4, a5, a6, a7, a8, a9, a10, a11, a12, a13, a14⟩ := I
  refine ⟨by rw [ht _ _ (by omega) (by omega) (by omega)]; exact a1, fun j hj => by rw [ht _ _ (by omega) (by omega) (by omega)]; exact a2 j hj, by rw [ht _ _ (by omega) (by omega) (by omega)]; exact a3, by rw [ht _ _ (by omega) (by omega) (by omega)]; exact a4, by rw [ht _ _ (by omega) (by omega) (by omega)]; exact a5, by rw [ht _ _ (by omega) (by omega) (by omega)]; exact a6, by rw [ht _ _ (by omega) (by omega) (by omega)]; exact a7, by rw [ht _ _ (by omega) (by omega) (by omega)]; exact a8, by rw [ht _ _ (by omega) (by omega) (by omega)]; exact a9, fun i hi => by rw [ht _ _ (by omega) (by omega) (by omega)]; exact a10 i hi, fun k hk => ?_, by rw [ht _ _ (by omega) (by omega) (by omega)]; exact a12, by rw [ht _ _ (by omega) (by omega) (by omega)]; exact a13, fun k hk => ?_⟩
  · rw [ht _ _ (by omega) (by omega) (by omega), ht _ _ (by omega) (by omega) (by omega), ht _ _ (by omega) (by omega) (by omega)]; exact a11 k hk
  · rw [ht _ _ (by omega) (by omega) (by omega), ht _ _ (by omega) (by omega) (by omega), ht _ _ (by omega) (by omega) (by omega)]; exact a14 k hk
theorem IMG.frI (I : IMG σ τ w h kE kS) (hs : ∀ i j, 37 ≤ i → i ≤ 58 → σ' i j = σ i j) (ht : ∀ j, 1673 ≤ j → τ' 1 j = τ 1 j) (h2 : ∀ j, σ' 2 j = σ 2 j) (t2 : ∀ j, τ' 2 j = τ 2 j) : IMG σ' τ' w h kE kS := by
  intro im him
  obtain ⟨kp, a1, a2, a3⟩ := I im him
  refine ⟨kp, by rw [h2]; exact a1, by rw [t2]; exact a2, fun hk => ?_⟩
  obtain ⟨g', d', P', ig⟩ := a3 hk
  exact ⟨g', d', P', ig.frI (by omega) (by omega) (by omega) hs ht⟩
/-- the present ground may change -/
theorem Inv.nw {d' : Nat} (cv : CV w h gn kn kE kS gr sz wo fo tl tx sn sk sf st) (im : IM τ w h gn kn kE kS gr sz wo fo tl tx sn sk sf st) (is : IS σ w h gn kn kE kS gr sz wo fo tl tx sn sk sf st) (img : IMG σ τ w h kE kS) (c1 : σ 0 100 = τ 0 100) (c2 : σ 0 101 = τ 0 101) (hs : ∀ i j, i ≤ 2 ∨ (4 ≤ i ∧ i ≤ 6) ∨ (10 ≤ i ∧ i ≤ 17) ∨ (37 ≤ i ∧ i ≤ 58) → σ' i j = σ i j) (ht : ∀ i j, i ≠ 1 → ¬ (i = 0 ∧ 32 ≤ j ∧ j ≤ 34) → τ' i j = τ i j) (ht1 : ∀ j, 1673 ≤ j → τ' 1 j = τ 1 j) (ig : IG σ' τ' 26 0 w h kE kS g' d' P') : Inv σ' τ' := by
  refine ⟨w, h, gn, kn, kE, kS, gr, sz, wo, fo, tl, tx, sn, sk, sf, st, g', d', P', cv, im.fr2 (fun i j h1 _ h3 => ht i j h1 h3), is.fr2 (fun i j h1 => hs i j (by omega)), ig, IMG.frI img (fun i j h1 h2 => hs i j (by omega)) ht1 (fun j => hs 2 j (by omega)) (fun j => ht 2 j (by omega) (by omega)), ?_, ?_⟩
  · rw [hs 0 _ (by omega), ht 0 _ (by omega) (by omega)]; exact c1
  · rw [hs 0 _ (by omega), ht 0 _ (by omega) (by omega)]; exact c2
end

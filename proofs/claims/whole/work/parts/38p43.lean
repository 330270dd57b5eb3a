/-! pure: kerbs and gratings of the text -/
section
variable {σ τ σ' τ' : St} {tl p w h gn kn kE kS : Nat} {tx gr sz wo fo ht : Nat → Nat}
theorem rc_t {r : Int32} (h : mX12_reads 0 0 (nI w - 1) τ = some (r, τ')) (hw : τ 0 20 = nI w) (hr : zb r) : mX12_readsCell τ = some (r, τ') := by
  unfold mX12_readsCell
  rw [hw, h, bd_t, gd_t hr]
/-- the reference's kerbs -/
def kE' (w h kE i v : Nat) : Nat := if edge w h i v = true ∧ (v = 0 ∨ v = 3) then kE else sE kE (sid w i v)
def kS' (w h kS i v : Nat) : Nat := if edge w h i v = true ∧ (v = 0 ∨ v = 3) then kS else sS kS (sid w i v)
theorem m_kerbIn {x y v : Nat} (hx : x < w) (hy : y < h) (w6 : w ≤ 6) (h5 : h ≤ 5) (hv : v < 4) (h0 : τ 15 0 = nI x) (h1 : τ 15 1 = nI y) (h2 : τ 15 2 = nI v) (hW : τ 0 20 = nI w) (hE : τ 12 0 = nI kE) (hS : τ 12 1 = nI kS) : ∃ τ', (gd (ib 0 3) <| gd (ib 2 3) <| if (τ 15 (nx 2)) = 3 then (mX12_readsKerb_55 1 (τ 15 (nx 0)) τ) else (mX12_readsKerb_55 0 (τ 15 (nx 0)) τ)) = some (1, τ') ∧ τ' 12 0 = nI (kE' w h kE (w * y + x) v) ∧ τ' 12 1 = nI (kS' w h kS (w * y + x) v) ∧ ∀ i j, i ≠ 12 → τ' i j = τ i j := by
  obtain ⟨e0, e1, e2, e3⟩ := edge_at (h := h) (q := y) hx
  have hi : w * y + x < w * h := cell_lt hx hy
  have h30 : w * h ≤ 30 := Nat.mul_le_mul w6 h5
  have g0 : τ 15 (nx 0) = nI x := h0
  have g1 : τ 15 (nx 1) = nI y := h1
  have g2 : τ 15 (nx 2) = nI v := h2
  have U : ∀ z, z < w * h → ∀ t0 : Nat, t0 < 2 → ∀ a b : Nat, b * w + a = z → mX12_readsKerb_108 (nI a) (nI b) (nI t0) τ = some (1, s_up τ 12 t0 (τ 12 t0 ||| nI (2 ^ z))) := by
    intro z hz t0 ht0 a b e
    unfold mX12_readsKerb_108
    rw [gd_t (ib_nI ht0 (by decide)), gd_t (ib_nI ht0 (by decide)), nx_nI (by omega), hW, pk_mul, nI_add, show w * b + a = z by rw [Nat.mul_comm]; exact e, shl1_nI (by omega), lt_t]
  rw [gd_t (by decide), gd_t (by decide), g0]
  unfold mX12_readsKerb_55 mX12_readsKerb_77
  rcases four hv with rfl | rfl | rfl | rfl
  · rw [if_neg (show ¬ τ 15 (nx 2) = 3 by rw [g2]; decide), lt_t, show nI x - 0 = nI x by rw [li0, sub_nI (Nat.zero_le _), Nat.sub_zero], gd_t (by decide), gd_t (by decide), if_pos (show τ 15 (nx 2) = 0 from g2), lt_t, g1]
    by_cases q : y = 0
    · have he : edge w h (w * y + x) 0 = true := by rw [e0, q]; rfl
      refine ⟨τ, ?_, by unfold kE'; rw [if_pos ⟨he, Or.inl rfl⟩]; exact hE, by unfold kS'; rw [if_pos ⟨he, Or.inl rfl⟩]; exact hS, fun _ _ _ => rfl⟩
      rw [if_neg (nI_pos (by omega)), q, if_pos (show nI 0 - 1 < 0 by decide)]
    · have he : ¬ (edge w h (w * y + x) 0 = true ∧ (0 = 0 ∨ 0 = 3)) := fun z => by rw [e0, beq_eq_false_iff_ne.mpr q] at z; cases z.1
      have hs : sid w (w * y + x) 0 = 2 * (w * y + x - w) + 1 := rfl
      have hwy : w ≤ w * y := Nat.le_mul_of_pos_right w (by omega)
      rw [if_neg (nI_pos (by omega)), li1, sub_nI (by omega), if_neg (nI_pos (by omega)), gd_t (by decide), if_neg (show ¬ i_rem (τ 15 (nx 2)) 2 = nI 1 by rw [g2]; decide), U (w * y + x - w) (by omega) 1 (by decide) x (y - 1) (by rw [Nat.mul_comm, Nat.mul_sub]; omega), hS, or_nI]
      refine ⟨_, rfl, ?_, ?_, fun i j h1 => su_o (by omega)⟩
      · unfold kE' sE; rw [if_neg he, hs, if_neg (by omega), su_o (by omega)]; exact hE
      · unfold kS' sS; rw [if_neg he, hs, if_neg (by omega), su_s, show (2 * (w * y + x - w) + 1) / 2 = w * y + x - w by omega]
  · have he : ¬ (edge w h (w * y + x) 1 = true ∧ (1 = 0 ∨ 1 = 3)) := fun z => by omega
    have hs : sid w (w * y + x) 1 = 2 * (w * y + x) := rfl
    rw [if_neg (show ¬ τ 15 (nx 2) = 3 by rw [g2]; decide), lt_t, show nI x - 0 = nI x by rw [li0, sub_nI (Nat.zero_le _), Nat.sub_zero], gd_t (by decide), gd_t (by decide), if_neg (show ¬ τ 15 (nx 2) = 0 by rw [g2]; decide), lt_t, g1, show nI y - 0 = nI y by rw [li0, sub_nI (Nat.zero_le _), Nat.sub_zero], if_neg (nI_pos (by omega)), if_neg (nI_pos (by omega)), gd_t (by decide), if_pos (show i_rem (τ 15 (nx 2)) 2 = 1 by rw [g2]; decide), show (0 : Int32) = nI 0 from rfl, U (w * y + x) hi 0 (by decide) x y (by rw [Nat.mul_comm]), hE, or_nI]
    refine ⟨_, rfl, ?_, ?_, fun i j h1 => su_o (by omega)⟩
    · unfold kE' sE; rw [if_neg he, hs, if_pos (by omega), su_s, show 2 * (w * y + x) / 2 = w * y + x by omega]
    · unfold kS' sS; rw [if_neg he, hs, if_pos (by omega), su_o (by omega)]; exact hS
  · have he : ¬ (edge w h (w * y + x) 2 = true ∧ (2 = 0 ∨ 2 = 3)) := fun z => by omega
    have hs : sid w (w * y + x) 2 = 2 * (w * y + x) + 1 := rfl
    rw [if_neg (show ¬ τ 15 (nx 2) = 3 by rw [g2]; decide), lt_t, show nI x - 0 = nI x by rw [li0, sub_nI (Nat.zero_le _), Nat.sub_zero], gd_t (by decide), gd_t (by decide), if_neg (show ¬ τ 15 (nx 2) = 0 by rw [g2]; decide), lt_t, g1, show nI y - 0 = nI y by rw [li0, sub_nI (Nat.zero_le _), Nat.sub_zero], if_neg (nI_pos (by omega)), if_neg (nI_pos (by omega)), gd_t (by decide), if_neg (show ¬ i_rem (τ 15 (nx 2)) 2 = 1 by rw [g2]; decide), show (1 : Int32) = nI 1 from rfl, U (w * y + x) hi 1 (by decide) x y (by rw [Nat.mul_comm]), hS, or_nI]
    refine ⟨_, rfl, ?_, ?_, fun i j h1 => su_o (by omega)⟩
    · unfold kE' sE; rw [if_neg he, hs, if_neg (by omega), su_o (by omega)]; exact hE
    · unfold kS' sS; rw [if_neg he, hs, if_neg (by omega), su_s, show (2 * (w * y + x) + 1) / 2 = w * y + x by omega]
  · rw [if_pos (show τ 15 (nx 2) = 3 from g2), lt_t, gd_t (by decide), gd_t (by decide), if_neg (show ¬ τ 15 (nx 2) = 0 by rw [g2]; decide), lt_t, g1, show nI y - 0 = nI y by rw [li0, sub_nI (Nat.zero_le _), Nat.sub_zero]]
    by_cases q : x = 0
    · have he : edge w h (w * y + x) 3 = true := by rw [e3, q]; rfl
      refine ⟨τ, ?_, by unfold kE'; rw [if_pos ⟨he, Or.inr rfl⟩]; exact hE, by unfold kS'; rw [if_pos ⟨he, Or.inr rfl⟩]; exact hS, fun _ _ _ => rfl⟩
      rw [q, if_pos (show nI 0 - 1 < 0 by decide)]
    · have he : ¬ (edge w h (w * y + x) 3 = true ∧ (3 = 0 ∨ 3 = 3)) := fun z => by rw [e3, beq_eq_false_iff_ne.mpr q] at z; cases z.1
      have hs : sid w (w * y + x) 3 = 2 * (w * y + x - 1) := rfl
      rw [show nI x - 1 = nI (x - 1) by rw [li1, sub_nI (by omega)], if_neg (nI_pos (by omega)), if_neg (nI_pos (by omega)), gd_t (by decide), if_pos (show i_rem (τ 15 (nx 2)) 2 = 1 by rw [g2]; decide), show (0 : Int32) = nI 0 from rfl, U (w * y + x - 1) (by omega) 0 (by decide) (x - 1) y (by rw [Nat.mul_comm]; omega), hE, or_nI]
      refine ⟨_, rfl, ?_, ?_, fun i j h1 => su_o (by omega)⟩
      · unfold kE' sE; rw [if_neg he, hs, if_pos (by omega), su_s, show 2 * (w * y + x - 1) / 2 = w * y + x - 1 by omega]
      · unfold kS' sS; rw [if_neg he, hs, if_pos (by omega), su_o (by omega)]; exact hS
theorem kway_new {i v : Nat} (hi : i < w * h) (hv : v < 4) {j : Nat} (hj : j < w * h) : (if edge w h i v then kway w h kE kS j 4 else kway w h (sE kE (sid w i v)) (sS kS (sid w i v)) j 4) = kway w h (kE' w h kE i v) (kS' w h kS i v) j 4 := by
  unfold kE' kS'
  cases he : edge w h i v with
  | false => rw [if_neg Bool.false_ne_true, if_neg (fun z => by cases z.1), if_neg (fun z => by cases z.1)]
  | true =>
    rw [if_pos rfl]
    by_cases c : v = 0 ∨ v = 3
    · rw [if_pos ⟨rfl, c⟩, if_pos ⟨rfl, c⟩]
    · rw [if_neg (fun z => c z.2), if_neg (fun z => c z.2), kway_B4, kway_B4]
      exact B4_ext (fun u hu => (kf_edge hi (by omega) he hj hu).symm)
theorem it_kerb (R : RD σ τ tl tx p) (V : CRV w h gn kn kE kS gr sz wo fo ht) (C : CRS σ w h gn kn kE kS gr sz wo fo ht) (D : CRM τ w h gn kn kE kS gr sz wo fo ht) : OUT tl tx p σ τ (mX7_readKerb σ) (mX12_readsKerb τ) := by
  have h200 := R.1.2.2.2.1
  have hp := R.2.2.2.2.2
  obtain ⟨v1, v2, v3, v4, v5, v6, v7, v8, v9, v10, v11⟩ := V
  have h30 : w * h ≤ 30 := Nat.mul_le_mul v2 v4
  have ew : nI w - 1 = nI (w - 1) := by rw [li1, sub_nI v1]
  have eh : nI h - 1 = nI (h - 1) := by rw [li1, sub_nI v3]
  unfold mX7_readKerb mX12_readsKerb
  rw [C.1, ew]
  rcases rn R (s := 0) (L := 0) (H := w - 1) (by decide) (by decide) (by omega) with ⟨a, σ1, τ1, a1, a2, a3, a4, a5, a6, a7, a8, a9⟩ | ⟨r, σ1, τ1, a1, a2, a3, a4, a5⟩
  · rw [show mX7_readNumber 0 (nI (w - 1)) σ = _ from a1, bd_t, rc_t (by rw [ew]; exact a2) D.1 (by decide), bd_t, if_neg n10, a7 18 1 (by omega), C.2.1, eh, a8 0 21 (by omega) (by omega), D.2.1, eh]
    rcases rn a3 (s := 1) (L := 0) (H := h - 1) (by decide) (by decide) (by omega) with ⟨b, σ2, τ2, b1, b2, b3, b4, b5, b6, b7, b8, b9⟩ | ⟨r, σ2, τ2, b1, b2, b3, b4, b5⟩
    · rw [show mX7_readNumber 0 (nI (h - 1)) σ1 = _ from b1, bd_t, show mX12_reads 1 0 (nI (h - 1)) τ1 = _ from b2, bd_t, if_neg n10]
      rcases rn b3 (s := 2) (L := 0) (H := 3) (by decide) (by decide) (by decide) with ⟨c, σ3, τ3, c1, c2, c3, c4, c5, c6, c7, c8, c9⟩ | ⟨r, σ3, τ3, c1, c2, c3, c4, c5⟩
      · have F3 := (a7.tr b7).tr c7
        have G3 := (a8.tr b8).tr c8
        have ha : a < w := by omega
        have hb : b < h := by omega
        have hi := cell_lt ha hb
        obtain ⟨τ4, d1, d2, d3, d4⟩ := m_kerbIn (τ := τ3) (kE := kE) (kS := kS) ha hb v2 v4 (show c < 4 by omega) (by rw [c9 0 (by omega), b9 0 (by omega)]; exact a4) (by rw [c9 1 (by omega)]; exact b4) c4 (by rw [G3 0 20 (by omega) (by omega)]; exact D.1) (by rw [G3 12 0 (by omega) (by omega)]; exact D.2.2.2.2.1) (by rw [G3 12 1 (by omega) (by omega)]; exact D.2.2.2.2.2.1)
        have k0 : σ3 18 0 = nI w := by rw [F3 18 0 (by omega)]; exact C.1
        have k1 : σ3 18 1 = nI h := by rw [F3 18 1 (by omega)]; exact C.2.1
        obtain ⟨σ4, e1, e2, e3⟩ := s_addKerb (σ := σ3) (kE := kE) (kS := kS) hi h30 (show c < 4 by omega) (fun j hj => by rw [F3 20 j (by omega)]; exact C.2.2.2.2.2.1 j hj) (fun j hj u hu => by rw [F3 22 _ (by omega)]; exact C.2.2.2.2.2.2.2.2.1 j hj u hu)
        rw [show mX7_readNumber 0 3 σ2 = _ from c1, bd_t, show mX12_reads 2 0 3 τ2 = _ from c2, bd_t, if_neg n10, d1, c3.2.2.2.1, if_pos rfl, s_cellAt_t k0 k1 v2 v4 ha hb, bd_t, e1, bd_t]
        left
        have sl := sid_lt (w := w) (v := c) hi h30
        refine ⟨σ4, τ4, tE tl tx (tE tl tx (tE tl tx p)), rfl, rfl, ?_, ?_, ?_, ?_, ?_⟩
        · obtain ⟨q1, q2, q3, q4, ⟨q5, q6, q7⟩, q8⟩ := c3
          exact ⟨q1.fr (fun j => e3 1 j (by omega)) (e3 68 0 (by omega)) (e3 68 1 (by omega)), q2.fr (fun j => d4 3 j (by omega)) (d4 0 3 (by omega)), by rw [e3 68 2 (by omega)]; exact q3, by rw [e3 68 6 (by omega)]; exact q4, ⟨by rw [d4 0 17 (by omega)]; exact q5, by rw [d4 0 18 (by omega)]; exact q6, by rw [d4 0 19 (by omega)]; exact q7⟩, q8⟩
        · have e1 := tE_ge (tx := tx) hp
          have e2 := tE_ge (tx := tx) a3.2.2.2.2.2
          have e3 := tE_ge (tx := tx) b3.2.2.2.2.2
          omega
        · obtain ⟨s1, s2, s3, s4, s5, s6, s7, s8, s9, s10⟩ := C
          obtain ⟨m1, m2, m3, m4, m5', m6, m7, m8, m9⟩ := D
          have g3 : ∀ i j, i ≠ 68 → i ≠ 20 → σ4 i j = σ i j := fun i j h1 h2 => by rw [e3 i j h2, F3 i j (by omega)]
          have g3' : ∀ i j, ¬ (i = 0 ∧ 17 ≤ j ∧ j ≤ 19) → i ≠ 15 → i ≠ 12 → τ4 i j = τ i j := fun i j h1 h2 h3 => by rw [d4 i j h3, G3 i j h1 h2]
          refine ⟨w, h, gn, kn, kE' w h kE (w * b + a) c, kS' w h kS (w * b + a) c, gr, sz, wo, fo, ht, ⟨v1, v2, v3, v4, ?_, ?_, v7, v8, v9, v10, v11⟩, ⟨?_, ?_, ?_, ?_, ?_, fun i hi' => ?_, fun i hi' => ?_, fun i hi' => ?_, fun i hi' v hv => ?_, fun k hk' => ?_⟩, ⟨?_, ?_, ?_, ?_, d2, d3, fun i hi' => ?_, fun i hi' => ?_, fun k hk' => ?_⟩⟩
          · unfold kE'; split
            · exact v5
            · exact sE_lt v5 sl
          · unfold kS'; split
            · exact v6
            · exact sS_lt v6 sl
          · rw [g3 18 0 (by omega) (by omega)]; exact s1
          · rw [g3 18 1 (by omega) (by omega)]; exact s2
          · rw [g3 18 2 (by omega) (by omega)]; exact s3
          · rw [g3 18 3 (by omega) (by omega)]; exact s4
          · rw [g3 18 4 (by omega) (by omega)]; exact s5
          · rw [e2 i hi', kway_new hi (by omega) hi']
          · rw [g3 21 i (by omega) (by omega)]; exact s7 i hi'
          · rw [g3 19 i (by omega) (by omega)]; exact s8 i hi'
          · rw [g3 22 _ (by omega) (by omega)]; exact s9 i hi' v hv
          · rw [g3 23 k (by omega) (by omega), g3 24 k (by omega) (by omega), g3 25 k (by omega) (by omega)]; exact s10 k hk'
          · rw [g3' 0 20 (by omega) (by omega) (by omega)]; exact m1
          · rw [g3' 0 21 (by omega) (by omega) (by omega)]; exact m2
          · rw [g3' 0 25 (by omega) (by omega) (by omega)]; exact m3
          · rw [g3' 0 26 (by omega) (by omega) (by omega)]; exact m4
          · rw [g3' 13 i (by omega) (by omega) (by omega)]; exact m7 i hi'
          · rw [g3' 11 i (by omega) (by omega) (by omega)]; exact m8 i hi'
          · rw [g3' 14 _ (by omega) (by omega) (by omega), g3' 14 _ (by omega) (by omega) (by omega), g3' 14 _ (by omega) (by omega) (by omega)]; exact m9 k hk'
        · exact fun i j h1 h2 => by rw [e3 i j (by omega), F3 i j h2]
        · exact fun i j h1 h2 => by rw [d4 i j (by omega), G3 i j (by omega) (by omega)]
      · rw [show mX7_readNumber 0 3 σ2 = _ from c1, bd_t, show mX12_reads 2 0 3 τ2 = _ from c2, bd_t, if_pos rfl, if_neg (c3.n h200)]
        exact Or.inr ⟨σ3, τ3, rfl, rfl, c3, ((a7.tr b7).tr c4).x, ((a8.tr b8).tr c5).x⟩
    · rw [show mX7_readNumber 0 (nI (h - 1)) σ1 = _ from b1, bd_t, show mX12_reads 1 0 (nI (h - 1)) τ1 = _ from b2, bd_t, if_pos rfl, s_readN0 (b3.n h200), bd_t, if_neg (b3.n h200)]
      exact Or.inr ⟨σ2, τ2, rfl, rfl, b3, (a7.tr b4).x, (a8.tr b5).x⟩
  · rw [show mX7_readNumber 0 (nI (w - 1)) σ = _ from a1, bd_t, rc_t (by rw [ew]; exact a2) D.1 (by decide), bd_t, if_pos rfl, s_readN0 (a3.n h200), bd_t, s_readN0 (a3.n h200), bd_t, if_neg (a3.n h200)]
    exact Or.inr ⟨σ1, τ1, rfl, rfl, a3, a4.x, a5.x⟩
theorem it_grating (R : RD σ τ tl tx p) (V : CRV w h gn kn kE kS gr sz wo fo ht) (C : CRS σ w h gn kn kE kS gr sz wo fo ht) (D : CRM τ w h gn kn kE kS gr sz wo fo ht) (hg4 : gn < 4) : OUT tl tx p σ τ (mX7_readGrating σ) (mX12_readsGrating τ) := by
  have h200 := R.1.2.2.2.1
  have hp := R.2.2.2.2.2
  obtain ⟨v1, v2, v3, v4, v5, v6, v7, v8, v9, v10, v11⟩ := V
  have h30 : w * h ≤ 30 := Nat.mul_le_mul v2 v4
  have ew : nI w - 1 = nI (w - 1) := by rw [li1, sub_nI v1]
  have eh : nI h - 1 = nI (h - 1) := by rw [li1, sub_nI v3]
  unfold mX7_readGrating mX12_readsGrating
  rw [C.2.2.2.1, if_pos (show nI gn < 4 from nI_lt (b := 4) hg4 (by decide)), C.1, ew]
  rcases rn R (s := 0) (L := 0) (H := w - 1) (by decide) (by decide) (by omega) with ⟨a, σ1, τ1, a1, a2, a3, a4, a5, a6, a7, a8, a9⟩ | ⟨r, σ1, τ1, a1, a2, a3, a4, a5⟩
  · rw [show mX7_readNumber 0 (nI (w - 1)) σ = _ from a1, bd_t, rc_t (by rw [ew]; exact a2) D.1 (by decide), bd_t, if_neg n10, a7 18 1 (by omega), C.2.1, eh, a8 0 21 (by omega) (by omega), D.2.1, eh]
    obtain ⟨TS, TM, h2, h6, M, hp1⟩ := a3
    have hE := tE_le tx hp1
    have hB := tB_le tx hp1
    obtain ⟨r, σ2, b1, b2, b3⟩ := s_readN TS h2 h6 hp1 0 (nI (h - 1))
    rw [b1, bd_t]
    rcases m_number TM M hp1 0 (nI (h - 1)) with ⟨ok, m1⟩ | ⟨ok, m1⟩
    · rcases b3 with ⟨-, q1, q2, q3, q4⟩ | ⟨nok, -⟩
      · have vl := nvl_lt TS hp1 ok.1
        obtain ⟨b, hb'⟩ : ∃ b, b = nvl tl tx (tE tl tx p) := ⟨_, rfl⟩
        rw [← hb'] at vl q1 m1
        have hb : b < h := by
          have := ok.2.2
          rw [← hb', nI_ltp (by omega) vl] at this
          omega
        have ha : a < w := by omega
        have hi := cell_lt ha hb
        obtain ⟨τ2, hτ2⟩ : ∃ τ2, τ2 = s_up τ1 15 1 (nI b) := ⟨_, rfl⟩
        have f2 : ∀ i j, ¬ (i = 15 ∧ j = 1) → τ2 i j = τ1 i j := fun i j hij => by rw [hτ2, su_o (by omega)]
        have F2 := a7.tr b2
        have w20 : ∀ τ' : St, (∀ i j, ¬ (i = 0 ∧ 17 ≤ j ∧ j ≤ 19) → i ≠ 15 → τ' i j = τ2 i j) → τ' 15 0 = nI a → τ' 15 1 = nI b → mX12_readBit τ' = some (nI (w * b + a), τ') := by
          intro τ' h1 h2 h3
          unfold mX12_readBit
          rw [gd_t (by decide), gd_t (by decide), h1 0 20 (by omega) (by omega), f2 0 20 (by omega), a8 0 20 (by omega) (by omega), D.1, show τ' 15 (nx 1) = nI b from h3, show τ' 15 (nx 0) = nI a from h2, pk_mul, nI_add]
        have c0 : τ2 15 0 = nI a := by rw [f2 15 0 (by omega)]; exact a4
        have c1 : τ2 15 1 = nI b := by rw [hτ2, su_s]
        have g13 : τ2 13 (w * b + a) = nI (gr (w * b + a)) := by rw [f2 13 _ (by omega), a8 13 _ (by omega) (by omega)]; exact D.2.2.2.2.2.2.1 _ (by omega)
        have g21 : σ2 21 (w * b + a) = nI (gr (w * b + a)) := by rw [F2 21 _ (by omega)]; exact C.2.2.2.2.2.2.1 _ hi
        have k0 : σ2 18 0 = nI w := by rw [F2 18 0 (by omega)]; exact C.1
        have k1 : σ2 18 1 = nI h := by rw [F2 18 1 (by omega)]; exact C.2.1
        have gr9 := v9 (w * b + a) (by omega)
        rw [m1, bd_t, gd_t (by decide), lt_t, show s_up τ1 15 (nx 1) (nI b) = τ2 from hτ2.symm, gd_t (by decide), if_neg (show ¬ τ2 15 (nx 1) = -9 by rw [show τ2 15 (nx 1) = nI b from c1]; exact nI_m9 vl), w20 τ2 (fun _ _ _ _ => rfl) c0 c1, bd_t, q4, if_pos rfl, q1, s_cellAt_t k0 k1 v2 v4 ha hb, bd_t, gd_t (ib_nI (by omega) (by decide)), gd_t (ib_nI (by omega) (by decide))]
        simp only [nx_nI (show w * b + a < 2 ^ 31 by omega), g13, g21]
        by_cases c : 0 < gr (w * b + a)
        · rw [if_pos (show 0 < nI (gr (w * b + a)) from nI_lt (a := 0) c (by omega)), if_pos (show 0 < nI (gr (w * b + a)) from nI_lt (a := 0) c (by omega)), s_fail q4 q3, bd_t]
          right
          refine ⟨_, τ2, rfl, rfl, ⟨tB tl tx (tE tl tx p), hB.2, su_s, by rw [f2 0 18 (by omega)]; exact M.2.1⟩, fun i j h1 h2 => by rw [su_o (by omega), F2 i j h2], fun i j h1 h2 => by rw [f2 i j (by omega), a8 i j (by omega) (by omega)]⟩
        · rw [if_neg (show ¬ 0 < nI (gr (w * b + a)) from nI_nlt (a := 0) (by omega) (by omega)), if_neg (show ¬ 0 < nI (gr (w * b + a)) from nI_nlt (a := 0) (by omega) (by omega))]
          have T2 : TXM τ2 tl tx := TM.fr (fun j => f2 3 j (by omega)) (f2 0 3 (by omega))
          have g := m_token T2 (p := tE tl tx (tE tl tx p)) (by rw [f2 0 17 (by omega)]; exact M.1) hE.2.1
          have R3 : RD σ2 (mT τ2 (tB tl tx (tE tl tx (tE tl tx p))) (tE tl tx (tE tl tx (tE tl tx p)))) tl tx (tE tl tx (tE tl tx p)) := ⟨b2.txs TS, T2.fr (fun j => mT_o (by omega)) (mT_o (by omega)), q2, q4, ⟨mT_17, mT_18, mT_19⟩, hE.2.1⟩
          rw [g, bd_t]
          rcases rn R3 (s := 2) (L := 1) (H := 9) (by decide) (by decide) (by decide) with ⟨e, σ3, τ3, d1, d2, d3, d4, d5, d6, d7, d8, d9⟩ | ⟨r', σ3, τ3, d1, d2, d3, d4, d5⟩
          · have D8 : ∀ i j, ¬ (i = 0 ∧ 17 ≤ j ∧ j ≤ 19) → i ≠ 15 → τ3 i j = τ2 i j := fun i j h1 h2 => by rw [d8 i j h1 h2, mT_o h1]
            have G3 : ∀ i j, ¬ (i = 0 ∧ 17 ≤ j ∧ j ≤ 19) → i ≠ 15 → τ3 i j = τ i j := fun i j h1 h2 => by rw [D8 i j h1 h2, f2 i j (by omega), a8 i j h1 h2]
            have F3 := F2.tr d7
            have e18 : σ3 18 3 = nI gn := by rw [F3 18 3 (by omega)]; exact C.2.2.2.1
            have e25 : τ3 0 25 = nI gn := by rw [G3 0 25 (by omega) (by omega)]; exact D.2.2.1
            rw [show mX7_readNumber 1 9 σ2 = _ from d1, bd_t, d3.2.2.2.1, if_pos rfl, gd_t (ib_nI (by omega) (by decide)), lt_t, su_o (by omega), e18, lt_t, show mX12_reads 2 1 9 _ = _ from d2, bd_t, if_neg n10, w20 τ3 D8 (by rw [d9 0 (by omega), mT_o (by omega)]; exact c0) (by rw [d9 1 (by omega), mT_o (by omega)]; exact c1), bd_t, gd_t (by decide), gd_t (ib_nI (by omega) (by decide)), nx_nI (by omega), show τ3 15 (nx 2) = nI e from d4, lt_t, su_o (by omega), e25, lt_t, li1, nI_add]
            left
            refine ⟨_, _, tE tl tx (tE tl tx (tE tl tx p)), rfl, rfl, ?_, ?_, ?_, ?_, ?_⟩
            · obtain ⟨z1, z2, z3, z4, ⟨z5, z6, z7⟩, z8⟩ := d3
              refine ⟨z1.fr (fun j => by rw [su_o (by omega), su_o (by omega)]) (by rw [su_o (by omega), su_o (by omega)]) (by rw [su_o (by omega), su_o (by omega)]), z2.fr (fun j => by rw [su_o (by omega), su_o (by omega)]) (by rw [su_o (by omega), su_o (by omega)]), by rw [su_o (by omega), su_o (by omega)]; exact z3, by rw [su_o (by omega), su_o (by omega)]; exact z4, ⟨by rw [su_o (by omega), su_o (by omega)]; exact z5, by rw [su_o (by omega), su_o (by omega)]; exact z6, by rw [su_o (by omega), su_o (by omega)]; exact z7⟩, z8⟩
            · have e1 := tE_ge (tx := tx) hp
              have e2 := tE_ge (tx := tx) hp1
              have e3 := tE_ge (tx := tx) R3.2.2.2.2.2
              omega
            · obtain ⟨s1, s2, s3, s4, s5, s6, s7, s8, s9, s10⟩ := C
              obtain ⟨m1', m2, m3, m4, m5', m6, m7, m8, m9⟩ := D
              refine ⟨w, h, gn + 1, kn, kE, kS, fun j => if j = w * b + a then e else gr j, sz, wo, fo, ht, ⟨v1, v2, v3, v4, v5, v6, by omega, v8, fun j hj => ?_, v10, v11⟩, ⟨?_, ?_, ?_, su_s, ?_, fun i hi' => ?_, fun i hi' => ?_, fun i hi' => ?_, fun i hi' v hv => ?_, fun k hk' => ?_⟩, ⟨?_, ?_, su_s, ?_, ?_, ?_, fun i hi' => ?_, fun i hi' => ?_, fun k hk' => ?_⟩⟩
              · show (if j = w * b + a then e else gr j) ≤ 9
                split
                · exact d6
                · exact v9 j hj
              · rw [su_o (by omega), su_o (by omega), F3 18 0 (by omega)]; exact s1
              · rw [su_o (by omega), su_o (by omega), F3 18 1 (by omega)]; exact s2
              · rw [su_o (by omega), su_o (by omega), F3 18 2 (by omega)]; exact s3
              · rw [su_o (by omega), su_o (by omega), F3 18 4 (by omega)]; exact s5
              · rw [su_o (by omega), su_o (by omega), F3 20 i (by omega)]; exact s6 i hi'
              · show _ = nI (if i = w * b + a then e else gr i)
                by_cases z : i = w * b + a
                · rw [if_pos z, z, su_o (by omega), su_s]
                · rw [if_neg z, su_o (by omega), su_o (by omega), F3 21 i (by omega)]; exact s7 i hi'
              · rw [su_o (by omega), su_o (by omega), F3 19 i (by omega)]; exact s8 i hi'
              · rw [su_o (by omega), su_o (by omega), F3 22 _ (by omega)]; exact s9 i hi' v hv
              · rw [su_o (by omega), su_o (by omega), su_o (by omega), su_o (by omega), su_o (by omega), su_o (by omega), F3 23 k (by omega), F3 24 k (by omega), F3 25 k (by omega)]; exact s10 k hk'
              · rw [su_o (by omega), su_o (by omega), G3 0 20 (by omega) (by omega)]; exact m1'
              · rw [su_o (by omega), su_o (by omega), G3 0 21 (by omega) (by omega)]; exact m2
              · rw [su_o (by omega), su_o (by omega), G3 0 26 (by omega) (by omega)]; exact m4
              · rw [su_o (by omega), su_o (by omega), G3 12 0 (by omega) (by omega)]; exact m5'
              · rw [su_o (by omega), su_o (by omega), G3 12 1 (by omega) (by omega)]; exact m6
              · show _ = nI (if i = w * b + a then e else gr i)
                by_cases z : i = w * b + a
                · rw [if_pos z, z, su_o (by omega), su_s]
                · rw [if_neg z, su_o (by omega), su_o (by omega), G3 13 i (by omega) (by omega)]; exact m7 i hi'
              · rw [su_o (by omega), su_o (by omega), G3 11 i (by omega) (by omega)]; exact m8 i hi'
              · rw [su_o (by omega), su_o (by omega), su_o (by omega), su_o (by omega), su_o (by omega), su_o (by omega), G3 14 _ (by omega) (by omega), G3 14 _ (by omega) (by omega), G3 14 _ (by omega) (by omega)]; exact m9 k hk'
            · exact fun i j h1 h2 => by rw [su_o (by omega), su_o (by omega), F3 i j h2]
            · exact fun i j h1 h2 => by rw [su_o (by omega), su_o (by omega), G3 i j (by omega) (by omega)]
          · rw [show mX7_readNumber 1 9 σ2 = _ from d1, bd_t, if_neg (d3.n h200), show mX12_reads 2 1 9 _ = _ from d2, bd_t, if_pos rfl]
            exact Or.inr ⟨σ3, τ3, rfl, rfl, d3, (F2.tr d4).x, fun i j h1 h2 => by rw [d5 i j (by omega) (by omega), mT_o (by omega), f2 i j (by omega), a8 i j (by omega) (by omega)]⟩
      · exact absurd ok nok
    · rcases b3 with ⟨ok', -⟩ | ⟨-, q1⟩
      · exact absurd ok' ok
      · have n6 : ¬ σ2 68 6 = -1 := by rw [q1]; exact nI_m1 (by omega)
        rw [m1, bd_t, gd_t (by decide), lt_t, gd_t (by decide), su_s, if_pos rfl, if_neg n6]
        exact Or.inr ⟨σ2, _, rfl, rfl, ⟨tB tl tx (tE tl tx p), hB.2, q1, by rw [su_o (by decide)]; exact M.2.1⟩, (a7.tr b2).x, fun i j h1 h2 => by rw [su_o (by omega), a8 i j (by omega) (by omega)]⟩
  · rw [show mX7_readNumber 0 (nI (w - 1)) σ = _ from a1, bd_t, rc_t (by rw [ew]; exact a2) D.1 (by decide), bd_t, if_pos rfl, s_readN0 (a3.n h200), bd_t, if_neg (a3.n h200)]
    exact Or.inr ⟨σ1, τ1, rfl, rfl, a3, a4.x, a5.x⟩
end

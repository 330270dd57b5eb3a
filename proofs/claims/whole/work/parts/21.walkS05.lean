/-! walks, by program -/
-- X11_apart (5, 130)
set_option maxRecDepth 100000 in
set_option maxHeartbeats 4000000 in
theorem ctX11_apart {l : Launch} {D : va_G} {cI cZ cC cG cB : ClassId} {ad : Nat → Nat} {v1 : Int32} {v2 : Int32} {σ : St} {res : (Int32 × St)} (h : mX11_apart v1 v2 σ = some res) : Ci l yX11_apart wsX11_apart 5 130 D vwCl (tysS cI cZ cC cG cB) nwS (mkS cI cZ cC cG cB ad) ad 75 [.ref (ad 0), .int v1, .int v2] σ res := by
  refine c_int (cc := cX11_apart) (maxL := 3) (by decide) rfl (Nat.le_of_ble_eq_true rfl) fun a b hn K hR => ?_
  unfold mX11_apart at h
  have K : KS (GS l 5 130 D cI cZ cC cG cB ad a b (w_A ad 75)) cX11_apart RX11 wsX11_apart (some .int) := K
  have hn : x_n (GS l 5 130 D cI cZ cC cG cB ad a b (w_A ad 75)) = 3 := hn
  refine k_sub [0, 1, 2] rfl ?_
  refine k_aload_n K dX11_apart_0 0 rfl ?_
  refine k_iload_n K dX11_apart_1 1 rfl ?_
  obtain ⟨⟨r1, s2⟩, e3, h⟩ := bd_some h
  dsimp only at h
  refine k_callVi K 0 11 (Nat.le_of_ble_eq_true rfl) ((mS_0 cI cZ cC cG cB ad) _) rfl (ctX11_isKind e3) (cwV 1 K.ts gX11_apart_X11_isKind rfl rfl rfl hVX11_isKind ⟨Nat.le_of_ble_eq_true rfl, Nat.le_of_ble_eq_true rfl⟩) rfl rfl (Nat.le_of_ble_eq_true rfl) dX11_apart_2 ?_
  refine k_if_eq (tgt := 21) K dX11_apart_5 (by decide) (fun q => ?_) (fun q => ?_)
  · have h := if_t q h
    refine k_iconst (x := (-1)) K dX11_apart_21 (by decide) ?_
    exact ret_i hR h dX11_apart_22 trivial
  · have h := if_f q h
    refine k_aload_n K dX11_apart_8 0 rfl ?_
    refine k_iload_n K dX11_apart_9 2 rfl ?_
    obtain ⟨⟨r4, s5⟩, e6, h⟩ := bd_some h
    dsimp only at h
    refine k_callVi K 0 11 (Nat.le_of_ble_eq_true rfl) ((mS_0 cI cZ cC cG cB ad) _) rfl (ctX11_isKind e6) (cwV 1 K.ts gX11_apart_X11_isKind rfl rfl rfl hVX11_isKind ⟨Nat.le_of_ble_eq_true rfl, Nat.le_of_ble_eq_true rfl⟩) rfl rfl (Nat.le_of_ble_eq_true rfl) dX11_apart_10 ?_
    refine k_if_eq (tgt := 21) K dX11_apart_13 (by decide) (fun q => ?_) (fun q => ?_)
    · have h := if_t q h
      refine k_iconst (x := (-1)) K dX11_apart_21 (by decide) ?_
      exact ret_i hR h dX11_apart_22 trivial
    · have h := if_f q h
      refine k_iload_n K dX11_apart_16 1 rfl ?_
      refine k_iload_n K dX11_apart_17 2 rfl ?_
      refine k_icmp_ne (tgt := 23) K dX11_apart_18 (by decide) (fun q => ?_) (fun q => ?_)
      · have h := if_f q h
        refine k_aload_n K dX11_apart_23 0 rfl ?_
        refine k_iload_n K dX11_apart_24 1 rfl ?_
        refine k_iload_n K dX11_apart_25 2 rfl ?_
        obtain ⟨⟨r7, s8⟩, e9, h⟩ := bd_some h
        dsimp only at h
        refine k_callVi K 0 11 (Nat.le_of_ble_eq_true rfl) ((mS_0 cI cZ cC cG cB ad) _) rfl (ctX11_apartBits e9) (cwV 2 K.ts gX11_apart_X11_apartBits rfl rfl rfl hVX11_apartBits ⟨Nat.le_of_ble_eq_true rfl, Nat.le_of_ble_eq_true rfl⟩) rfl rfl (Nat.le_of_ble_eq_true rfl) dX11_apart_26 ?_
        exact ret_i hR h dX11_apart_29 trivial
      · have h := if_t q h
        refine k_iconst (x := (-1)) K dX11_apart_21 (by decide) ?_
        exact ret_i hR h dX11_apart_22 trivial
-- X11_partnerBelow (0, 0)
theorem iX11_partnerBelow_X11 : ∀ w ∈ wsX110, w ∈ wsX11_partnerBelow := fun _ h => List.mem_cons_of_mem _ (List.mem_append_right _ h)
theorem fX11_partnerBelow_65 : Cond.fieldLink RX11 65 "SlopeCoins" "tally" "[I" ∈ wsX11_partnerBelow := by decide +kernel
set_option maxRecDepth 100000 in
set_option maxHeartbeats 4000000 in
theorem wX11_partnerBelow_3 {l : Launch} {D : va_G} {cI cZ cC cG cB : ClassId} {ad : Nat → Nat} {a : Program × Env × State × MethodId} {b : Array Value × List Frame × Method × Code × (State → Prop) × Nat} {A : Nat → Prop} (K : KS (GS l 0 0 D cI cZ cC cG cB ad a b A) cX11_partnerBelow RX11 wsX11_partnerBelow (some .int)) (hn : x_n (GS l 0 0 D cI cZ cC cG cB ad a b A) = 5) {res : (Int32 × St)} (hR : HRi (GS l 0 0 D cI cZ cC cG cB ad a b A) cX11_partnerBelow tb res) : ∀ (n : Nat) (v1 : Int32) (v2 : Int32) (v3 : Int32) (v4 : Int32) (σ : St), mX11_partnerBelow_3 n v1 v2 v3 v4 σ = some res → Wk (GS l 0 0 D cI cZ cC cG cB ad a b A) 3 [(0, .ref (ad 0)), (1, .int v1), (2, .int v2), (3, .int v3), (4, .int v4)] [] σ := by
  intro n
  induction n with
  | zero => intro v1 v2 v3 v4 σ h; cases h
  | succ n ih =>
    intro v1 v2 v3 v4 σ h
    unfold mX11_partnerBelow_3 at h
    refine k_iload K dX11_partnerBelow_3 4 rfl ?_
    refine k_iload_n K dX11_partnerBelow_5 1 rfl ?_
    refine k_icmp_ge (tgt := 31) K dX11_partnerBelow_6 (by decide) (fun q => ?_) (fun q => ?_)
    · have h := if_f q h
      refine k_iconst (x := (-1)) K dX11_partnerBelow_31 (by decide) ?_
      exact ret_i hR h dX11_partnerBelow_32 trivial
    · have h := if_t q h
      refine k_iload_n K dX11_partnerBelow_9 2 rfl ?_
      refine k_aload_n K dX11_partnerBelow_10 0 rfl ?_
      refine k_get K 0 11 11 iX11_partnerBelow_X11 (Nat.le_of_ble_eq_true rfl) ((mS_0 cI cZ cC cG cB ad) _) rfl (by decide) fX11_partnerBelow_65 rfl dX11_partnerBelow_11 ?_
      refine k_iload K dX11_partnerBelow_14 4 rfl ?_
      obtain ⟨g1, h⟩ := gd_some h
      refine k_ild K 3 0 (Nat.le_of_ble_eq_true rfl) ((mS_3 cI cZ cC cG cB ad) _) rfl g1 dX11_partnerBelow_16 ?_
      refine k_ior K dX11_partnerBelow_17 ?_
      refine k_iload_n K dX11_partnerBelow_18 3 rfl ?_
      refine k_icmp_ne (tgt := 25) K dX11_partnerBelow_19 (by decide) (fun q => ?_) (fun q => ?_)
      · have h := if_f q h
        have h := lt_some h
        refine k_iinc (lv' := [(4, _), (0, _), (1, _), (2, _), (3, _)]) K dX11_partnerBelow_25 4 rfl (v := _ + 1) (by rfl) (by rw [hn]; decide) rfl ?_
        refine k_goto (tgt := 3) K dX11_partnerBelow_28 (by decide) ?_
        exact k_sub [1, 2, 3, 4, 0] rfl (ih _ _ _ _ _ h)
      · have h := if_t q h
        refine k_iload K dX11_partnerBelow_22 4 rfl ?_
        exact ret_i hR h dX11_partnerBelow_24 trivial
set_option maxRecDepth 100000 in
set_option maxHeartbeats 4000000 in
theorem ctX11_partnerBelow {l : Launch} {D : va_G} {cI cZ cC cG cB : ClassId} {ad : Nat → Nat} {v1 : Int32} {v2 : Int32} {v3 : Int32} {σ : St} {res : (Int32 × St)} (h : mX11_partnerBelow v1 v2 v3 σ = some res) : Ci l yX11_partnerBelow wsX11_partnerBelow 0 0 D vwCl (tysS cI cZ cC cG cB) nwS (mkS cI cZ cC cG cB ad) ad 75 [.ref (ad 0), .int v1, .int v2, .int v3] σ res := by
  refine c_int (cc := cX11_partnerBelow) (maxL := 5) (by decide) rfl (Nat.le_of_ble_eq_true rfl) fun a b hn K hR => ?_
  unfold mX11_partnerBelow at h
  have K : KS (GS l 0 0 D cI cZ cC cG cB ad a b (w_A ad 75)) cX11_partnerBelow RX11 wsX11_partnerBelow (some .int) := K
  have hn : x_n (GS l 0 0 D cI cZ cC cG cB ad a b (w_A ad 75)) = 5 := hn
  refine k_sub [0, 1, 2, 3] rfl ?_
  refine k_iconst (x := 0) K dX11_partnerBelow_0 (by decide) ?_
  refine k_istore (lv' := [(4, _), (0, _), (1, _), (2, _), (3, _)]) K dX11_partnerBelow_1 (by rw [hn]; decide) rfl ?_
  exact k_sub [1, 2, 3, 4, 0] rfl (wX11_partnerBelow_3 K hn hR FU _ _ _ _ _ h)
-- X11_fewestTelling (1, 24)
theorem iX11_fewestTelling_X11 : ∀ w ∈ wsX110, w ∈ wsX11_fewestTelling := fun _ h => List.mem_cons_of_mem _ (List.mem_append_left _ (List.mem_append_right _ h))
theorem iX11_fewestTelling_X2 : ∀ w ∈ wsX20, w ∈ wsX11_fewestTelling := fun _ h => List.mem_cons_of_mem _ (List.mem_append_right _ h)
theorem fX11_fewestTelling_16 : Cond.fieldLink RX11 16 "SlopeCoins" "city" "LSlopeCoins$City;" ∈ wsX11_fewestTelling := by decide +kernel
theorem fX11_fewestTelling_65 : Cond.fieldLink RX11 65 "SlopeCoins" "tally" "[I" ∈ wsX11_fewestTelling := by decide +kernel
theorem fX11_fewestTelling_232 : Cond.fieldLink RX11 232 "SlopeCoins$City" "cells" "I" ∈ wsX11_fewestTelling := by decide +kernel
set_option maxRecDepth 100000 in
set_option maxHeartbeats 4000000 in
theorem wX11_fewestTelling_70 {l : Launch} {D : va_G} {cI cZ cC cG cB : ClassId} {ad : Nat → Nat} {a : Program × Env × State × MethodId} {b : Array Value × List Frame × Method × Code × (State → Prop) × Nat} {A : Nat → Prop} (K : KS (GS l 1 24 D cI cZ cC cG cB ad a b A) cX11_fewestTelling RX11 wsX11_fewestTelling (some .int)) (hn : x_n (GS l 1 24 D cI cZ cC cG cB ad a b A) = 5) {res : (Int32 × St)} (hR : HRi (GS l 1 24 D cI cZ cC cG cB ad a b A) cX11_fewestTelling tb res) : ∀ (v2 : Int32), ∀ (v3 : Int32), ∀ (σ : St), mX11_fewestTelling_70 v2 v3 σ = some res → Wk (GS l 1 24 D cI cZ cC cG cB ad a b A) 70 [(2, .int v2), (3, .int v3)] [] σ := by
  intro v2 v3 σ h
  unfold mX11_fewestTelling_70 at h
  refine k_iconst (x := 1) K dX11_fewestTelling_70 (by decide) ?_
  refine k_iload_n K dX11_fewestTelling_71 0 rfl ?_
  refine k_ishl K dX11_fewestTelling_72 ?_
  refine k_iconst (x := 1) K dX11_fewestTelling_73 (by decide) ?_
  refine k_iload_n K dX11_fewestTelling_74 1 rfl ?_
  refine k_ishl K dX11_fewestTelling_75 ?_
  refine k_ior K dX11_fewestTelling_76 ?_
  exact ret_i hR h dX11_fewestTelling_77 trivial
set_option maxRecDepth 100000 in
set_option maxHeartbeats 4000000 in
theorem wX11_fewestTelling_131 {l : Launch} {D : va_G} {cI cZ cC cG cB : ClassId} {ad : Nat → Nat} {a : Program × Env × State × MethodId} {b : Array Value × List Frame × Method × Code × (State → Prop) × Nat} {A : Nat → Prop} (K : KS (GS l 1 24 D cI cZ cC cG cB ad a b A) cX11_fewestTelling RX11 wsX11_fewestTelling (some .int)) (hn : x_n (GS l 1 24 D cI cZ cC cG cB ad a b A) = 5) {res : (Int32 × St)} (hR : HRi (GS l 1 24 D cI cZ cC cG cB ad a b A) cX11_fewestTelling tb res) : ∀ (v2 : Int32), ∀ (v3 : Int32), ∀ (v4 : Int32), ∀ (σ : St), mX11_fewestTelling_131 v2 v3 v4 σ = some res → Wk (GS l 1 24 D cI cZ cC cG cB ad a b A) 131 [(2, .int v2), (3, .int v3), (4, .int v4)] [] σ := by
  intro v2 v3 v4 σ h
  unfold mX11_fewestTelling_131 at h
  refine k_iconst (x := 1) K dX11_fewestTelling_131 (by decide) ?_
  refine k_iload_n K dX11_fewestTelling_132 0 rfl ?_
  refine k_ishl K dX11_fewestTelling_133 ?_
  refine k_iconst (x := 1) K dX11_fewestTelling_134 (by decide) ?_
  refine k_iload_n K dX11_fewestTelling_135 1 rfl ?_
  refine k_ishl K dX11_fewestTelling_136 ?_
  refine k_ior K dX11_fewestTelling_137 ?_
  refine k_iconst (x := 1) K dX11_fewestTelling_138 (by decide) ?_
  refine k_iload K dX11_fewestTelling_139 2 rfl ?_
  refine k_ishl K dX11_fewestTelling_141 ?_
  refine k_ior K dX11_fewestTelling_142 ?_
  exact ret_i hR h dX11_fewestTelling_143 trivial
set_option maxRecDepth 100000 in
set_option maxHeartbeats 4000000 in
theorem wX11_fewestTelling_150 {l : Launch} {D : va_G} {cI cZ cC cG cB : ClassId} {ad : Nat → Nat} {a : Program × Env × State × MethodId} {b : Array Value × List Frame × Method × Code × (State → Prop) × Nat} {A : Nat → Prop} {k131 : Int32 → Int32 → Int32 → St → Option (Int32 × St)} {rc : Int32 → Int32 → St → Option (Int32 × St)} (K : KS (GS l 1 24 D cI cZ cC cG cB ad a b A) cX11_fewestTelling RX11 wsX11_fewestTelling (some .int)) (hn : x_n (GS l 1 24 D cI cZ cC cG cB ad a b A) = 5) {res : (Int32 × St)} (hR : HRi (GS l 1 24 D cI cZ cC cG cB ad a b A) cX11_fewestTelling tb res) (hk131 : ∀ (v2 : Int32) (v3 : Int32) (v4 : Int32) (σ : St), k131 v2 v3 v4 σ = some res → Wk (GS l 1 24 D cI cZ cC cG cB ad a b A) 131 [(2, .int v2), (3, .int v3), (4, .int v4)] [] σ) (hrc : ∀ (v1 : Int32) (v2 : Int32) (σ : St), rc v1 v2 σ = some res → Wk (GS l 1 24 D cI cZ cC cG cB ad a b A) 86 [(0, .ref (ad 0)), (1, .int v1), (2, .int v2)] [] σ) : ∀ (v1 : Int32), ∀ (v2 : Int32), ∀ (σ : St), mX11_fewestTelling_150 k131 rc v1 v2 σ = some res → Wk (GS l 1 24 D cI cZ cC cG cB ad a b A) 150 [(0, .ref (ad 0)), (1, .int v1), (2, .int v2)] [] σ := by
  intro v1 v2 σ h
  unfold mX11_fewestTelling_150 at h
  have h := lt_some h
  refine k_iinc (lv' := [(2, _), (0, _), (1, _)]) K dX11_fewestTelling_150 2 rfl (v := _ + 1) (by rfl) (by rw [hn]; decide) rfl ?_
  refine k_goto (tgt := 86) K dX11_fewestTelling_153 (by decide) ?_
  exact k_sub [1, 2, 0] rfl (hrc _ _ _ h)
set_option maxRecDepth 100000 in
set_option maxHeartbeats 4000000 in
theorem wX11_fewestTelling_99 {l : Launch} {D : va_G} {cI cZ cC cG cB : ClassId} {ad : Nat → Nat} {a : Program × Env × State × MethodId} {b : Array Value × List Frame × Method × Code × (State → Prop) × Nat} {A : Nat → Prop} {k131 : Int32 → Int32 → Int32 → St → Option (Int32 × St)} {k150 : Int32 → Int32 → St → Option (Int32 × St)} (K : KS (GS l 1 24 D cI cZ cC cG cB ad a b A) cX11_fewestTelling RX11 wsX11_fewestTelling (some .int)) (hn : x_n (GS l 1 24 D cI cZ cC cG cB ad a b A) = 5) {res : (Int32 × St)} (hR : HRi (GS l 1 24 D cI cZ cC cG cB ad a b A) cX11_fewestTelling tb res) (hk131 : ∀ (v2 : Int32) (v3 : Int32) (v4 : Int32) (σ : St), k131 v2 v3 v4 σ = some res → Wk (GS l 1 24 D cI cZ cC cG cB ad a b A) 131 [(2, .int v2), (3, .int v3), (4, .int v4)] [] σ) (hk150 : ∀ (v1 : Int32) (v2 : Int32) (σ : St), k150 v1 v2 σ = some res → Wk (GS l 1 24 D cI cZ cC cG cB ad a b A) 150 [(0, .ref (ad 0)), (1, .int v1), (2, .int v2)] [] σ) : ∀ (n : Nat) (v1 : Int32) (v2 : Int32) (v3 : Int32) (σ : St), mX11_fewestTelling_99 k131 k150 n v1 v2 v3 σ = some res → Wk (GS l 1 24 D cI cZ cC cG cB ad a b A) 99 [(0, .ref (ad 0)), (1, .int v1), (2, .int v2), (3, .int v3)] [] σ := by
  intro n
  induction n with
  | zero => intro v1 v2 v3 σ h; cases h
  | succ n ih =>
    intro v1 v2 v3 σ h
    unfold mX11_fewestTelling_99 at h
    refine k_iload_n K dX11_fewestTelling_99 3 rfl ?_
    refine k_iload_n K dX11_fewestTelling_100 2 rfl ?_
    refine k_icmp_ge (tgt := 150) K dX11_fewestTelling_101 (by decide) (fun q => ?_) (fun q => ?_)
    · have h := if_f q h
      exact k_sub [0, 1, 2] rfl (hk150 _ _ _ h)
    · have h := if_t q h
      refine k_aload_n K dX11_fewestTelling_104 0 rfl ?_
      refine k_iload_n K dX11_fewestTelling_105 3 rfl ?_
      refine k_aload_n K dX11_fewestTelling_106 0 rfl ?_
      refine k_get K 0 11 11 iX11_fewestTelling_X11 (Nat.le_of_ble_eq_true rfl) ((mS_0 cI cZ cC cG cB ad) _) rfl (by decide) fX11_fewestTelling_65 rfl dX11_fewestTelling_107 ?_
      refine k_iload_n K dX11_fewestTelling_110 2 rfl ?_
      obtain ⟨g2, h⟩ := gd_some h
      refine k_ild K 3 0 (Nat.le_of_ble_eq_true rfl) ((mS_3 cI cZ cC cG cB ad) _) rfl g2 dX11_fewestTelling_111 ?_
      refine k_aload_n K dX11_fewestTelling_112 0 rfl ?_
      refine k_get K 0 11 11 iX11_fewestTelling_X11 (Nat.le_of_ble_eq_true rfl) ((mS_0 cI cZ cC cG cB ad) _) rfl (by decide) fX11_fewestTelling_65 rfl dX11_fewestTelling_113 ?_
      refine k_iload_n K dX11_fewestTelling_116 3 rfl ?_
      obtain ⟨g3, h⟩ := gd_some h
      refine k_ild K 3 0 (Nat.le_of_ble_eq_true rfl) ((mS_3 cI cZ cC cG cB ad) _) rfl g3 dX11_fewestTelling_117 ?_
      refine k_ior K dX11_fewestTelling_118 ?_
      refine k_iload_n K dX11_fewestTelling_119 1 rfl ?_
      obtain ⟨⟨r4, s5⟩, e6, h⟩ := bd_some h
      dsimp only at h
      refine k_callVi K 0 11 (Nat.le_of_ble_eq_true rfl) ((mS_0 cI cZ cC cG cB ad) _) rfl (ctX11_partnerBelow e6) (cwV 3 K.ts gX11_fewestTelling_X11_partnerBelow rfl rfl rfl hVX11_partnerBelow ⟨Nat.le_of_ble_eq_true rfl, Nat.le_of_ble_eq_true rfl⟩) rfl rfl (Nat.le_of_ble_eq_true rfl) dX11_fewestTelling_120 ?_
      refine k_istore (lv' := [(4, _), (0, _), (1, _), (2, _), (3, _)]) K dX11_fewestTelling_123 (by rw [hn]; decide) rfl ?_
      refine k_iload K dX11_fewestTelling_125 0 rfl ?_
      refine k_iconst (x := (-1)) K dX11_fewestTelling_127 (by decide) ?_
      refine k_icmp_eq (tgt := 144) K dX11_fewestTelling_128 (by decide) (fun q => ?_) (fun q => ?_)
      · have h := if_t q h
        have h := lt_some h
        refine k_iinc (lv' := [(3, _), (4, _), (0, _), (1, _), (2, _)]) K dX11_fewestTelling_144 4 rfl (v := _ + 1) (by rfl) (by rw [hn]; decide) rfl ?_
        refine k_goto (tgt := 99) K dX11_fewestTelling_147 (by decide) ?_
        exact k_sub [2, 3, 4, 0] rfl (ih _ _ _ _ h)
      · have h := if_f q h
        exact k_sub [3, 4, 0] rfl (hk131 _ _ _ _ h)
set_option maxRecDepth 100000 in
set_option maxHeartbeats 4000000 in
theorem wX11_fewestTelling_86 {l : Launch} {D : va_G} {cI cZ cC cG cB : ClassId} {ad : Nat → Nat} {a : Program × Env × State × MethodId} {b : Array Value × List Frame × Method × Code × (State → Prop) × Nat} {A : Nat → Prop} {k131 : Int32 → Int32 → Int32 → St → Option (Int32 × St)} (K : KS (GS l 1 24 D cI cZ cC cG cB ad a b A) cX11_fewestTelling RX11 wsX11_fewestTelling (some .int)) (hn : x_n (GS l 1 24 D cI cZ cC cG cB ad a b A) = 5) {res : (Int32 × St)} (hR : HRi (GS l 1 24 D cI cZ cC cG cB ad a b A) cX11_fewestTelling tb res) (hk131 : ∀ (v2 : Int32) (v3 : Int32) (v4 : Int32) (σ : St), k131 v2 v3 v4 σ = some res → Wk (GS l 1 24 D cI cZ cC cG cB ad a b A) 131 [(2, .int v2), (3, .int v3), (4, .int v4)] [] σ) : ∀ (n : Nat) (v1 : Int32) (v2 : Int32) (σ : St), mX11_fewestTelling_86 k131 n v1 v2 σ = some res → Wk (GS l 1 24 D cI cZ cC cG cB ad a b A) 86 [(0, .ref (ad 0)), (1, .int v1), (2, .int v2)] [] σ := by
  intro n
  induction n with
  | zero => intro v1 v2 σ h; cases h
  | succ n ih =>
    intro v1 v2 σ h
    unfold mX11_fewestTelling_86 at h
    refine k_iload_n K dX11_fewestTelling_86 2 rfl ?_
    refine k_aload_n K dX11_fewestTelling_87 0 rfl ?_
    refine k_get K 0 11 2 iX11_fewestTelling_X11 (Nat.le_of_ble_eq_true rfl) ((mS_0 cI cZ cC cG cB ad) _) rfl (by decide) fX11_fewestTelling_16 rfl dX11_fewestTelling_88 ?_
    refine k_get K 10 2 2 iX11_fewestTelling_X2 (Nat.le_of_ble_eq_true rfl) ((mS_10 cI cZ cC cG cB ad) _) rfl (by decide) fX11_fewestTelling_232 rfl dX11_fewestTelling_91 ?_
    refine k_icmp_ge (tgt := 156) K dX11_fewestTelling_94 (by decide) (fun q => ?_) (fun q => ?_)
    · have h := if_f q h
      refine k_bipush (x := (-9)) K dX11_fewestTelling_156 (by decide) ?_
      exact ret_i hR h dX11_fewestTelling_158 trivial
    · have h := if_t q h
      refine k_iconst (x := 1) K dX11_fewestTelling_97 (by decide) ?_
      refine k_istore_n (lv' := [(3, _), (0, _), (1, _), (2, _)]) K dX11_fewestTelling_98 (by rw [hn]; decide) rfl ?_
      exact k_sub [1, 2, 3, 0] rfl (wX11_fewestTelling_99 K hn hR hk131 (fun v1 v2 σ h => wX11_fewestTelling_150 K hn hR hk131 ih v1 v2 σ h) FU _ _ _ _ h)
set_option maxRecDepth 100000 in
set_option maxHeartbeats 4000000 in
theorem wX11_fewestTelling_84 {l : Launch} {D : va_G} {cI cZ cC cG cB : ClassId} {ad : Nat → Nat} {a : Program × Env × State × MethodId} {b : Array Value × List Frame × Method × Code × (State → Prop) × Nat} {A : Nat → Prop} (K : KS (GS l 1 24 D cI cZ cC cG cB ad a b A) cX11_fewestTelling RX11 wsX11_fewestTelling (some .int)) (hn : x_n (GS l 1 24 D cI cZ cC cG cB ad a b A) = 5) {res : (Int32 × St)} (hR : HRi (GS l 1 24 D cI cZ cC cG cB ad a b A) cX11_fewestTelling tb res) : ∀ (v1 : Int32), ∀ (σ : St), mX11_fewestTelling_84 v1 σ = some res → Wk (GS l 1 24 D cI cZ cC cG cB ad a b A) 84 [(0, .ref (ad 0)), (1, .int v1)] [] σ := by
  intro v1 σ h
  unfold mX11_fewestTelling_84 at h
  refine k_iconst (x := 2) K dX11_fewestTelling_84 (by decide) ?_
  refine k_istore_n (lv' := [(2, _), (0, _), (1, _)]) K dX11_fewestTelling_85 (by rw [hn]; decide) rfl ?_
  exact k_sub [1, 2, 0] rfl (wX11_fewestTelling_86 K hn hR (fun v2 v3 v4 σ h => wX11_fewestTelling_131 K hn hR v2 v3 v4 σ h) FU _ _ _ h)
set_option maxRecDepth 100000 in
set_option maxHeartbeats 4000000 in
theorem wX11_fewestTelling_41 {l : Launch} {D : va_G} {cI cZ cC cG cB : ClassId} {ad : Nat → Nat} {a : Program × Env × State × MethodId} {b : Array Value × List Frame × Method × Code × (State → Prop) × Nat} {A : Nat → Prop} {k70 : Int32 → Int32 → St → Option (Int32 × St)} {k84 : Int32 → St → Option (Int32 × St)} (K : KS (GS l 1 24 D cI cZ cC cG cB ad a b A) cX11_fewestTelling RX11 wsX11_fewestTelling (some .int)) (hn : x_n (GS l 1 24 D cI cZ cC cG cB ad a b A) = 5) {res : (Int32 × St)} (hR : HRi (GS l 1 24 D cI cZ cC cG cB ad a b A) cX11_fewestTelling tb res) (hk70 : ∀ (v2 : Int32) (v3 : Int32) (σ : St), k70 v2 v3 σ = some res → Wk (GS l 1 24 D cI cZ cC cG cB ad a b A) 70 [(2, .int v2), (3, .int v3)] [] σ) (hk84 : ∀ (v1 : Int32) (σ : St), k84 v1 σ = some res → Wk (GS l 1 24 D cI cZ cC cG cB ad a b A) 84 [(0, .ref (ad 0)), (1, .int v1)] [] σ) : ∀ (n : Nat) (v1 : Int32) (v2 : Int32) (σ : St), mX11_fewestTelling_41 k70 k84 n v1 v2 σ = some res → Wk (GS l 1 24 D cI cZ cC cG cB ad a b A) 41 [(0, .ref (ad 0)), (1, .int v1), (2, .int v2)] [] σ := by
  intro n
  induction n with
  | zero => intro v1 v2 σ h; cases h
  | succ n ih =>
    intro v1 v2 σ h
    unfold mX11_fewestTelling_41 at h
    refine k_iload_n K dX11_fewestTelling_41 2 rfl ?_
    refine k_aload_n K dX11_fewestTelling_42 0 rfl ?_
    refine k_get K 0 11 2 iX11_fewestTelling_X11 (Nat.le_of_ble_eq_true rfl) ((mS_0 cI cZ cC cG cB ad) _) rfl (by decide) fX11_fewestTelling_16 rfl dX11_fewestTelling_43 ?_
    refine k_get K 10 2 2 iX11_fewestTelling_X2 (Nat.le_of_ble_eq_true rfl) ((mS_10 cI cZ cC cG cB ad) _) rfl (by decide) fX11_fewestTelling_232 rfl dX11_fewestTelling_46 ?_
    refine k_icmp_ge (tgt := 84) K dX11_fewestTelling_49 (by decide) (fun q => ?_) (fun q => ?_)
    · have h := if_f q h
      exact k_sub [0, 1] rfl (hk84 _ _ h)
    · have h := if_t q h
      refine k_aload_n K dX11_fewestTelling_52 0 rfl ?_
      refine k_iload_n K dX11_fewestTelling_53 2 rfl ?_
      refine k_aload_n K dX11_fewestTelling_54 0 rfl ?_
      refine k_get K 0 11 11 iX11_fewestTelling_X11 (Nat.le_of_ble_eq_true rfl) ((mS_0 cI cZ cC cG cB ad) _) rfl (by decide) fX11_fewestTelling_65 rfl dX11_fewestTelling_55 ?_
      refine k_iload_n K dX11_fewestTelling_58 2 rfl ?_
      obtain ⟨g8, h⟩ := gd_some h
      refine k_ild K 3 0 (Nat.le_of_ble_eq_true rfl) ((mS_3 cI cZ cC cG cB ad) _) rfl g8 dX11_fewestTelling_59 ?_
      refine k_iload_n K dX11_fewestTelling_60 1 rfl ?_
      obtain ⟨⟨r9, s10⟩, e11, h⟩ := bd_some h
      dsimp only at h
      refine k_callVi K 0 11 (Nat.le_of_ble_eq_true rfl) ((mS_0 cI cZ cC cG cB ad) _) rfl (ctX11_partnerBelow e11) (cwV 3 K.ts gX11_fewestTelling_X11_partnerBelow rfl rfl rfl hVX11_partnerBelow ⟨Nat.le_of_ble_eq_true rfl, Nat.le_of_ble_eq_true rfl⟩) rfl rfl (Nat.le_of_ble_eq_true rfl) dX11_fewestTelling_61 ?_
      refine k_istore_n (lv' := [(3, _), (0, _), (1, _), (2, _)]) K dX11_fewestTelling_64 (by rw [hn]; decide) rfl ?_
      refine k_iload_n K dX11_fewestTelling_65 0 rfl ?_
      refine k_iconst (x := (-1)) K dX11_fewestTelling_66 (by decide) ?_
      refine k_icmp_eq (tgt := 78) K dX11_fewestTelling_67 (by decide) (fun q => ?_) (fun q => ?_)
      · have h := if_t q h
        have h := lt_some h
        refine k_iinc (lv' := [(2, _), (3, _), (0, _), (1, _)]) K dX11_fewestTelling_78 3 rfl (v := _ + 1) (by rfl) (by rw [hn]; decide) rfl ?_
        refine k_goto (tgt := 41) K dX11_fewestTelling_81 (by decide) ?_
        exact k_sub [2, 3, 0] rfl (ih _ _ _ h)
      · have h := if_f q h
        exact k_sub [3, 0] rfl (hk70 _ _ _ h)
set_option maxRecDepth 100000 in
set_option maxHeartbeats 4000000 in
theorem wX11_fewestTelling_39 {l : Launch} {D : va_G} {cI cZ cC cG cB : ClassId} {ad : Nat → Nat} {a : Program × Env × State × MethodId} {b : Array Value × List Frame × Method × Code × (State → Prop) × Nat} {A : Nat → Prop} (K : KS (GS l 1 24 D cI cZ cC cG cB ad a b A) cX11_fewestTelling RX11 wsX11_fewestTelling (some .int)) (hn : x_n (GS l 1 24 D cI cZ cC cG cB ad a b A) = 5) {res : (Int32 × St)} (hR : HRi (GS l 1 24 D cI cZ cC cG cB ad a b A) cX11_fewestTelling tb res) : ∀ (v1 : Int32), ∀ (σ : St), mX11_fewestTelling_39 v1 σ = some res → Wk (GS l 1 24 D cI cZ cC cG cB ad a b A) 39 [(0, .ref (ad 0)), (1, .int v1)] [] σ := by
  intro v1 σ h
  unfold mX11_fewestTelling_39 at h
  refine k_iconst (x := 1) K dX11_fewestTelling_39 (by decide) ?_
  refine k_istore_n (lv' := [(2, _), (0, _), (1, _)]) K dX11_fewestTelling_40 (by rw [hn]; decide) rfl ?_
  exact k_sub [1, 2, 0] rfl (wX11_fewestTelling_41 K hn hR (fun v2 v3 σ h => wX11_fewestTelling_70 K hn hR v2 v3 σ h) (fun v1 σ h => wX11_fewestTelling_84 K hn hR v1 σ h) FU _ _ _ h)
set_option maxRecDepth 100000 in
set_option maxHeartbeats 4000000 in
theorem wX11_fewestTelling_8 {l : Launch} {D : va_G} {cI cZ cC cG cB : ClassId} {ad : Nat → Nat} {a : Program × Env × State × MethodId} {b : Array Value × List Frame × Method × Code × (State → Prop) × Nat} {A : Nat → Prop} {k39 : Int32 → St → Option (Int32 × St)} (K : KS (GS l 1 24 D cI cZ cC cG cB ad a b A) cX11_fewestTelling RX11 wsX11_fewestTelling (some .int)) (hn : x_n (GS l 1 24 D cI cZ cC cG cB ad a b A) = 5) {res : (Int32 × St)} (hR : HRi (GS l 1 24 D cI cZ cC cG cB ad a b A) cX11_fewestTelling tb res) (hk39 : ∀ (v1 : Int32) (σ : St), k39 v1 σ = some res → Wk (GS l 1 24 D cI cZ cC cG cB ad a b A) 39 [(0, .ref (ad 0)), (1, .int v1)] [] σ) : ∀ (n : Nat) (v1 : Int32) (v2 : Int32) (σ : St), mX11_fewestTelling_8 k39 n v1 v2 σ = some res → Wk (GS l 1 24 D cI cZ cC cG cB ad a b A) 8 [(0, .ref (ad 0)), (1, .int v1), (2, .int v2)] [] σ := by
  intro n
  induction n with
  | zero => intro v1 v2 σ h; cases h
  | succ n ih =>
    intro v1 v2 σ h
    unfold mX11_fewestTelling_8 at h
    refine k_iload_n K dX11_fewestTelling_8 2 rfl ?_
    refine k_aload_n K dX11_fewestTelling_9 0 rfl ?_
    refine k_get K 0 11 2 iX11_fewestTelling_X11 (Nat.le_of_ble_eq_true rfl) ((mS_0 cI cZ cC cG cB ad) _) rfl (by decide) fX11_fewestTelling_16 rfl dX11_fewestTelling_10 ?_
    refine k_get K 10 2 2 iX11_fewestTelling_X2 (Nat.le_of_ble_eq_true rfl) ((mS_10 cI cZ cC cG cB ad) _) rfl (by decide) fX11_fewestTelling_232 rfl dX11_fewestTelling_13 ?_
    refine k_icmp_ge (tgt := 39) K dX11_fewestTelling_16 (by decide) (fun q => ?_) (fun q => ?_)
    · have h := if_f q h
      exact k_sub [0, 1] rfl (hk39 _ _ h)
    · have h := if_t q h
      refine k_aload_n K dX11_fewestTelling_19 0 rfl ?_
      refine k_get K 0 11 11 iX11_fewestTelling_X11 (Nat.le_of_ble_eq_true rfl) ((mS_0 cI cZ cC cG cB ad) _) rfl (by decide) fX11_fewestTelling_65 rfl dX11_fewestTelling_20 ?_
      refine k_iload_n K dX11_fewestTelling_23 2 rfl ?_
      obtain ⟨g13, h⟩ := gd_some h
      refine k_ild K 3 0 (Nat.le_of_ble_eq_true rfl) ((mS_3 cI cZ cC cG cB ad) _) rfl g13 dX11_fewestTelling_24 ?_
      refine k_iload_n K dX11_fewestTelling_25 1 rfl ?_
      refine k_icmp_ne (tgt := 33) K dX11_fewestTelling_26 (by decide) (fun q => ?_) (fun q => ?_)
      · have h := if_f q h
        have h := lt_some h
        refine k_iinc (lv' := [(2, _), (0, _), (1, _)]) K dX11_fewestTelling_33 2 rfl (v := _ + 1) (by rfl) (by rw [hn]; decide) rfl ?_
        refine k_goto (tgt := 8) K dX11_fewestTelling_36 (by decide) ?_
        exact k_sub [1, 2, 0] rfl (ih _ _ _ h)
      · have h := if_t q h
        refine k_iconst (x := 1) K dX11_fewestTelling_29 (by decide) ?_
        refine k_iload_n K dX11_fewestTelling_30 2 rfl ?_
        refine k_ishl K dX11_fewestTelling_31 ?_
        exact ret_i hR h dX11_fewestTelling_32 trivial
set_option maxRecDepth 100000 in
set_option maxHeartbeats 4000000 in
theorem ctX11_fewestTelling {l : Launch} {D : va_G} {cI cZ cC cG cB : ClassId} {ad : Nat → Nat} {v1 : Int32} {σ : St} {res : (Int32 × St)} (h : mX11_fewestTelling v1 σ = some res) : Ci l yX11_fewestTelling wsX11_fewestTelling 1 24 D vwCl (tysS cI cZ cC cG cB) nwS (mkS cI cZ cC cG cB ad) ad 75 [.ref (ad 0), .int v1] σ res := by
  refine c_int (cc := cX11_fewestTelling) (maxL := 5) (by decide) rfl (Nat.le_of_ble_eq_true rfl) fun a b hn K hR => ?_
  unfold mX11_fewestTelling at h
  have K : KS (GS l 1 24 D cI cZ cC cG cB ad a b (w_A ad 75)) cX11_fewestTelling RX11 wsX11_fewestTelling (some .int) := K
  have hn : x_n (GS l 1 24 D cI cZ cC cG cB ad a b (w_A ad 75)) = 5 := hn
  refine k_sub [0, 1] rfl ?_
  refine k_iload_n K dX11_fewestTelling_0 1 rfl ?_
  refine k_if_ne (tgt := 6) K dX11_fewestTelling_1 (by decide) (fun q => ?_) (fun q => ?_)
  · have h := if_f q h
    refine k_iconst (x := 0) K dX11_fewestTelling_6 (by decide) ?_
    refine k_istore_n (lv' := [(2, _), (0, _), (1, _)]) K dX11_fewestTelling_7 (by rw [hn]; decide) rfl ?_
    exact k_sub [1, 2, 0] rfl (wX11_fewestTelling_8 K hn hR (fun v1 σ h => wX11_fewestTelling_39 K hn hR v1 σ h) FU _ _ _ h)
  · have h := if_t q h
    refine k_iconst (x := 0) K dX11_fewestTelling_4 (by decide) ?_
    exact ret_i hR h dX11_fewestTelling_5 trivial
-- X11_noteTold (0, 0)
theorem iX11_noteTold_X11 : ∀ w ∈ wsX110, w ∈ wsX11_noteTold := fun _ h => List.mem_cons_of_mem _ (List.mem_append_left _ (List.mem_append_right _ h))
theorem iX11_noteTold_X2 : ∀ w ∈ wsX20, w ∈ wsX11_noteTold := fun _ h => List.mem_cons_of_mem _ (List.mem_append_right _ h)
theorem fX11_noteTold_16 : Cond.fieldLink RX11 16 "SlopeCoins" "city" "LSlopeCoins$City;" ∈ wsX11_noteTold := by decide +kernel
theorem fX11_noteTold_65 : Cond.fieldLink RX11 65 "SlopeCoins" "tally" "[I" ∈ wsX11_noteTold := by decide +kernel
theorem fX11_noteTold_232 : Cond.fieldLink RX11 232 "SlopeCoins$City" "cells" "I" ∈ wsX11_noteTold := by decide +kernel
set_option maxRecDepth 100000 in
set_option maxHeartbeats 4000000 in
theorem wX11_noteTold_31 {l : Launch} {D : va_G} {cI cZ cC cG cB : ClassId} {ad : Nat → Nat} {a : Program × Env × State × MethodId} {b : Array Value × List Frame × Method × Code × (State → Prop) × Nat} {A : Nat → Prop} {rc : Int32 → Int32 → Int32 → St → Option (Int32 × St)} (K : KS (GS l 0 0 D cI cZ cC cG cB ad a b A) cX11_noteTold RX11 wsX11_noteTold none) (hn : x_n (GS l 0 0 D cI cZ cC cG cB ad a b A) = 4) {res : (Int32 × St)} (hR : HRv (GS l 0 0 D cI cZ cC cG cB ad a b A) cX11_noteTold res) (hrc : ∀ (v1 : Int32) (v2 : Int32) (v3 : Int32) (σ : St), rc v1 v2 v3 σ = some res → Wk (GS l 0 0 D cI cZ cC cG cB ad a b A) 2 [(0, .ref (ad 0)), (1, .int v1), (2, .int v2), (3, .int v3)] [] σ) : ∀ (v1 : Int32), ∀ (v2 : Int32), ∀ (v3 : Int32), ∀ (σ : St), mX11_noteTold_31 rc v1 v2 v3 σ = some res → Wk (GS l 0 0 D cI cZ cC cG cB ad a b A) 31 [(0, .ref (ad 0)), (1, .int v1), (2, .int v2), (3, .int v3)] [] σ := by
  intro v1 v2 v3 σ h
  unfold mX11_noteTold_31 at h
  have h := lt_some h
  refine k_iinc (lv' := [(3, _), (0, _), (1, _), (2, _)]) K dX11_noteTold_31 3 rfl (v := _ + 1) (by rfl) (by rw [hn]; decide) rfl ?_
  refine k_goto (tgt := 2) K dX11_noteTold_34 (by decide) ?_
  exact k_sub [1, 2, 3, 0] rfl (hrc _ _ _ _ h)
set_option maxRecDepth 100000 in
set_option maxHeartbeats 4000000 in
theorem wX11_noteTold_2 {l : Launch} {D : va_G} {cI cZ cC cG cB : ClassId} {ad : Nat → Nat} {a : Program × Env × State × MethodId} {b : Array Value × List Frame × Method × Code × (State → Prop) × Nat} {A : Nat → Prop} (K : KS (GS l 0 0 D cI cZ cC cG cB ad a b A) cX11_noteTold RX11 wsX11_noteTold none) (hn : x_n (GS l 0 0 D cI cZ cC cG cB ad a b A) = 4) {res : (Int32 × St)} (hR : HRv (GS l 0 0 D cI cZ cC cG cB ad a b A) cX11_noteTold res) : ∀ (n : Nat) (v1 : Int32) (v2 : Int32) (v3 : Int32) (σ : St), mX11_noteTold_2 n v1 v2 v3 σ = some res → Wk (GS l 0 0 D cI cZ cC cG cB ad a b A) 2 [(0, .ref (ad 0)), (1, .int v1), (2, .int v2), (3, .int v3)] [] σ := by
  intro n
  induction n with
  | zero => intro v1 v2 v3 σ h; cases h
  | succ n ih =>
    intro v1 v2 v3 σ h
    unfold mX11_noteTold_2 at h
    refine k_iload_n K dX11_noteTold_2 3 rfl ?_
    refine k_aload_n K dX11_noteTold_3 0 rfl ?_
    refine k_get K 0 11 2 iX11_noteTold_X11 (Nat.le_of_ble_eq_true rfl) ((mS_0 cI cZ cC cG cB ad) _) rfl (by decide) fX11_noteTold_16 rfl dX11_noteTold_4 ?_
    refine k_get K 10 2 2 iX11_noteTold_X2 (Nat.le_of_ble_eq_true rfl) ((mS_10 cI cZ cC cG cB ad) _) rfl (by decide) fX11_noteTold_232 rfl dX11_noteTold_7 ?_
    refine k_icmp_ge (tgt := 37) K dX11_noteTold_10 (by decide) (fun q => ?_) (fun q => ?_)
    · have h := if_f q h
      exact ret_v hR h dX11_noteTold_37
    · have h := if_t q h
      refine k_iload_n K dX11_noteTold_13 1 rfl ?_
      refine k_iload_n K dX11_noteTold_14 3 rfl ?_
      refine k_ishr K dX11_noteTold_15 ?_
      refine k_iconst (x := 1) K dX11_noteTold_16 (by decide) ?_
      refine k_iand K dX11_noteTold_17 ?_
      refine k_if_eq (tgt := 31) K dX11_noteTold_18 (by decide) (fun q => ?_) (fun q => ?_)
      · have h := if_t q h
        exact k_sub [0, 1, 2, 3] rfl (wX11_noteTold_31 K hn hR ih _ _ _ _ h)
      · have h := if_f q h
        refine k_aload_n K dX11_noteTold_21 0 rfl ?_
        refine k_get K 0 11 11 iX11_noteTold_X11 (Nat.le_of_ble_eq_true rfl) ((mS_0 cI cZ cC cG cB ad) _) rfl (by decide) fX11_noteTold_65 rfl dX11_noteTold_22 ?_
        refine k_iload_n K dX11_noteTold_25 3 rfl ?_
        refine k_dup2 K dX11_noteTold_26 rfl rfl ?_
        obtain ⟨g2, h⟩ := gd_some h
        refine k_ild K 3 0 (Nat.le_of_ble_eq_true rfl) ((mS_3 cI cZ cC cG cB ad) _) rfl g2 dX11_noteTold_27 ?_
        refine k_iload_n K dX11_noteTold_28 2 rfl ?_
        refine k_ior K dX11_noteTold_29 ?_
        obtain ⟨g3, h⟩ := gd_some h
        have h := lt_some h
        refine k_ist K 3 0 (Nat.le_of_ble_eq_true rfl) (mS_3 cI cZ cC cG cB ad) rfl g3 dX11_noteTold_30 ?_
        exact k_sub [0, 1, 2, 3] rfl (wX11_noteTold_31 K hn hR ih _ _ _ _ h)
set_option maxRecDepth 100000 in
set_option maxHeartbeats 4000000 in
theorem ctX11_noteTold {l : Launch} {D : va_G} {cI cZ cC cG cB : ClassId} {ad : Nat → Nat} {v1 : Int32} {v2 : Int32} {σ : St} {res : (Int32 × St)} (h : mX11_noteTold v1 v2 σ = some res) : Cv l yX11_noteTold wsX11_noteTold 0 0 D vwCl (tysS cI cZ cC cG cB) nwS (mkS cI cZ cC cG cB ad) ad 75 [.ref (ad 0), .int v1, .int v2] σ res := by
  refine c_void (cc := cX11_noteTold) (maxL := 4) (by decide) rfl (Nat.le_of_ble_eq_true rfl) fun a b hn K hR => ?_
  unfold mX11_noteTold at h
  have K : KS (GS l 0 0 D cI cZ cC cG cB ad a b (w_A ad 75)) cX11_noteTold RX11 wsX11_noteTold none := K
  have hn : x_n (GS l 0 0 D cI cZ cC cG cB ad a b (w_A ad 75)) = 4 := hn
  refine k_sub [0, 1, 2] rfl ?_
  refine k_iconst (x := 0) K dX11_noteTold_0 (by decide) ?_
  refine k_istore_n (lv' := [(3, _), (0, _), (1, _), (2, _)]) K dX11_noteTold_1 (by rw [hn]; decide) rfl ?_
  exact k_sub [1, 2, 3, 0] rfl (wX11_noteTold_2 K hn hR FU _ _ _ _ h)
-- X11_rolls (5, 130)
theorem iX11_rolls_X11 : ∀ w ∈ wsX110, w ∈ wsX11_rolls := fun _ h => List.mem_cons_of_mem _ (List.mem_append_left _ (List.mem_append_left _ (List.mem_append_left _ (List.mem_append_right _ h))))
theorem iX11_rolls_X2 : ∀ w ∈ wsX20, w ∈ wsX11_rolls := fun _ h => List.mem_cons_of_mem _ (List.mem_append_left _ (List.mem_append_left _ (List.mem_append_right _ h)))
theorem fX11_rolls_16 : Cond.fieldLink RX11 16 "SlopeCoins" "city" "LSlopeCoins$City;" ∈ wsX11_rolls := by decide +kernel
theorem fX11_rolls_65 : Cond.fieldLink RX11 65 "SlopeCoins" "tally" "[I" ∈ wsX11_rolls := by decide +kernel
theorem fX11_rolls_265 : Cond.fieldLink RX11 265 "SlopeCoins$City" "kinds" "I" ∈ wsX11_rolls := by decide +kernel
set_option maxRecDepth 100000 in
set_option maxHeartbeats 4000000 in
theorem wX11_rolls_71 {l : Launch} {D : va_G} {cI cZ cC cG cB : ClassId} {ad : Nat → Nat} {a : Program × Env × State × MethodId} {b : Array Value × List Frame × Method × Code × (State → Prop) × Nat} {A : Nat → Prop} {rc : Int32 → Int32 → Int32 → St → Option (Int32 × St)} (K : KS (GS l 5 130 D cI cZ cC cG cB ad a b A) cX11_rolls RX11 wsX11_rolls (some .int)) (hn : x_n (GS l 5 130 D cI cZ cC cG cB ad a b A) = 5) {res : (Int32 × St)} (hR : HRi (GS l 5 130 D cI cZ cC cG cB ad a b A) cX11_rolls tb res) (hrc : ∀ (v1 : Int32) (v2 : Int32) (v3 : Int32) (σ : St), rc v1 v2 v3 σ = some res → Wk (GS l 5 130 D cI cZ cC cG cB ad a b A) 14 [(0, .ref (ad 0)), (1, .int v1), (2, .int v2), (3, .int v3)] [] σ) : ∀ (v1 : Int32), ∀ (v2 : Int32), ∀ (v3 : Int32), ∀ (σ : St), mX11_rolls_71 rc v1 v2 v3 σ = some res → Wk (GS l 5 130 D cI cZ cC cG cB ad a b A) 71 [(0, .ref (ad 0)), (1, .int v1), (2, .int v2), (3, .int v3)] [] σ := by
  intro v1 v2 v3 σ h
  unfold mX11_rolls_71 at h
  have h := lt_some h
  refine k_iinc (lv' := [(3, _), (0, _), (1, _), (2, _)]) K dX11_rolls_71 3 rfl (v := _ + 1) (by rfl) (by rw [hn]; decide) rfl ?_
  refine k_goto (tgt := 14) K dX11_rolls_74 (by decide) ?_
  exact k_sub [1, 2, 3, 0] rfl (hrc _ _ _ _ h)
set_option maxRecDepth 100000 in
set_option maxHeartbeats 4000000 in
theorem wX11_rolls_30 {l : Launch} {D : va_G} {cI cZ cC cG cB : ClassId} {ad : Nat → Nat} {a : Program × Env × State × MethodId} {b : Array Value × List Frame × Method × Code × (State → Prop) × Nat} {A : Nat → Prop} {k71 : Int32 → Int32 → Int32 → St → Option (Int32 × St)} (K : KS (GS l 5 130 D cI cZ cC cG cB ad a b A) cX11_rolls RX11 wsX11_rolls (some .int)) (hn : x_n (GS l 5 130 D cI cZ cC cG cB ad a b A) = 5) {res : (Int32 × St)} (hR : HRi (GS l 5 130 D cI cZ cC cG cB ad a b A) cX11_rolls tb res) (hk71 : ∀ (v1 : Int32) (v2 : Int32) (v3 : Int32) (σ : St), k71 v1 v2 v3 σ = some res → Wk (GS l 5 130 D cI cZ cC cG cB ad a b A) 71 [(0, .ref (ad 0)), (1, .int v1), (2, .int v2), (3, .int v3)] [] σ) : ∀ (n : Nat) (v1 : Int32) (v2 : Int32) (v3 : Int32) (v4 : Int32) (σ : St), mX11_rolls_30 k71 n v1 v2 v3 v4 σ = some res → Wk (GS l 5 130 D cI cZ cC cG cB ad a b A) 30 [(0, .ref (ad 0)), (1, .int v1), (2, .int v2), (3, .int v3), (4, .int v4)] [] σ := by
  intro n
  induction n with
  | zero => intro v1 v2 v3 v4 σ h; cases h
  | succ n ih =>
    intro v1 v2 v3 v4 σ h
    unfold mX11_rolls_30 at h
    refine k_iload K dX11_rolls_30 4 rfl ?_
    refine k_aload_n K dX11_rolls_32 0 rfl ?_
    refine k_get K 0 11 2 iX11_rolls_X11 (Nat.le_of_ble_eq_true rfl) ((mS_0 cI cZ cC cG cB ad) _) rfl (by decide) fX11_rolls_16 rfl dX11_rolls_33 ?_
    refine k_get K 10 2 4 iX11_rolls_X2 (Nat.le_of_ble_eq_true rfl) ((mS_10 cI cZ cC cG cB ad) _) rfl (by decide) fX11_rolls_265 rfl dX11_rolls_36 ?_
    refine k_icmp_ge (tgt := 71) K dX11_rolls_39 (by decide) (fun q => ?_) (fun q => ?_)
    · have h := if_f q h
      exact k_sub [0, 1, 2, 3] rfl (hk71 _ _ _ _ h)
    · have h := if_t q h
      refine k_aload_n K dX11_rolls_42 0 rfl ?_
      refine k_aload_n K dX11_rolls_43 0 rfl ?_
      refine k_iload_n K dX11_rolls_44 3 rfl ?_
      refine k_iload K dX11_rolls_45 4 rfl ?_
      obtain ⟨⟨r9, s10⟩, e11, h⟩ := bd_some h
      dsimp only at h
      refine k_callVi K 0 11 (Nat.le_of_ble_eq_true rfl) ((mS_0 cI cZ cC cG cB ad) _) rfl (ctX11_apartBits e11) (cwV 2 K.ts gX11_rolls_X11_apartBits rfl rfl rfl hVX11_apartBits ⟨Nat.le_of_ble_eq_true rfl, Nat.le_of_ble_eq_true rfl⟩) rfl rfl (Nat.le_of_ble_eq_true rfl) dX11_rolls_47 ?_
      refine k_iconst (x := 1) K dX11_rolls_50 (by decide) ?_
      refine k_iload_n K dX11_rolls_51 2 rfl ?_
      refine k_ishl K dX11_rolls_52 ?_
      obtain ⟨⟨r12, s13⟩, e14, h⟩ := bd_some h
      dsimp only at h
      refine k_callVv K 0 11 (Nat.le_of_ble_eq_true rfl) ((mS_0 cI cZ cC cG cB ad) _) rfl (ctX11_noteTold e14) (cwV 2 K.ts gX11_rolls_X11_noteTold rfl rfl rfl hVX11_noteTold ⟨Nat.le_of_ble_eq_true rfl, Nat.le_of_ble_eq_true rfl⟩) rfl rfl (Nat.le_of_ble_eq_true rfl) dX11_rolls_53 ?_
      refine k_iload_n K dX11_rolls_56 1 rfl ?_
      refine k_iconst (x := 1) K dX11_rolls_57 (by decide) ?_
      refine k_iload_n K dX11_rolls_58 2 rfl ?_
      refine k_ishl K dX11_rolls_59 ?_
      refine k_ior K dX11_rolls_60 ?_
      have h := lt_some h
      refine k_istore_n (lv' := [(1, _), (0, _), (2, _), (3, _), (4, _)]) K dX11_rolls_61 (by rw [hn]; decide) rfl ?_
      have h := lt_some h
      refine k_iinc (lv' := [(2, _), (1, _), (0, _), (3, _), (4, _)]) K dX11_rolls_62 2 rfl (v := _ + 1) (by rfl) (by rw [hn]; decide) rfl ?_
      have h := lt_some h
      refine k_iinc (lv' := [(4, _), (2, _), (1, _), (0, _), (3, _)]) K dX11_rolls_65 4 rfl (v := _ + 1) (by rfl) (by rw [hn]; decide) rfl ?_
      refine k_goto (tgt := 30) K dX11_rolls_68 (by decide) ?_
      exact k_sub [3, 2, 1, 4, 0] rfl (ih _ _ _ _ _ h)
set_option maxRecDepth 100000 in
set_option maxHeartbeats 4000000 in
theorem wX11_rolls_14 {l : Launch} {D : va_G} {cI cZ cC cG cB : ClassId} {ad : Nat → Nat} {a : Program × Env × State × MethodId} {b : Array Value × List Frame × Method × Code × (State → Prop) × Nat} {A : Nat → Prop} (K : KS (GS l 5 130 D cI cZ cC cG cB ad a b A) cX11_rolls RX11 wsX11_rolls (some .int)) (hn : x_n (GS l 5 130 D cI cZ cC cG cB ad a b A) = 5) {res : (Int32 × St)} (hR : HRi (GS l 5 130 D cI cZ cC cG cB ad a b A) cX11_rolls tb res) : ∀ (n : Nat) (v1 : Int32) (v2 : Int32) (v3 : Int32) (σ : St), mX11_rolls_14 n v1 v2 v3 σ = some res → Wk (GS l 5 130 D cI cZ cC cG cB ad a b A) 14 [(0, .ref (ad 0)), (1, .int v1), (2, .int v2), (3, .int v3)] [] σ := by
  intro n
  induction n with
  | zero => intro v1 v2 v3 σ h; cases h
  | succ n ih =>
    intro v1 v2 v3 σ h
    unfold mX11_rolls_14 at h
    refine k_iload_n K dX11_rolls_14 3 rfl ?_
    refine k_aload_n K dX11_rolls_15 0 rfl ?_
    refine k_get K 0 11 2 iX11_rolls_X11 (Nat.le_of_ble_eq_true rfl) ((mS_0 cI cZ cC cG cB ad) _) rfl (by decide) fX11_rolls_16 rfl dX11_rolls_16 ?_
    refine k_get K 10 2 4 iX11_rolls_X2 (Nat.le_of_ble_eq_true rfl) ((mS_10 cI cZ cC cG cB ad) _) rfl (by decide) fX11_rolls_265 rfl dX11_rolls_19 ?_
    refine k_icmp_ge (tgt := 77) K dX11_rolls_22 (by decide) (fun q => ?_) (fun q => ?_)
    · have h := if_f q h
      refine k_aload_n K dX11_rolls_77 0 rfl ?_
      refine k_iload_n K dX11_rolls_78 1 rfl ?_
      obtain ⟨⟨r4, s5⟩, e6, h⟩ := bd_some h
      dsimp only at h
      refine k_callVi K 0 11 (Nat.le_of_ble_eq_true rfl) ((mS_0 cI cZ cC cG cB ad) _) rfl (ctX11_fewestTelling e6) (cwV 1 K.ts gX11_rolls_X11_fewestTelling rfl rfl rfl hVX11_fewestTelling ⟨Nat.le_of_ble_eq_true rfl, Nat.le_of_ble_eq_true rfl⟩) rfl rfl (Nat.le_of_ble_eq_true rfl) dX11_rolls_79 ?_
      exact ret_i hR h dX11_rolls_82 trivial
    · have h := if_t q h
      refine k_iload_n K dX11_rolls_25 3 rfl ?_
      refine k_iconst (x := 1) K dX11_rolls_26 (by decide) ?_
      refine k_iadd K dX11_rolls_27 ?_
      have h := lt_some h
      refine k_istore (lv' := [(4, _), (0, _), (1, _), (2, _), (3, _)]) K dX11_rolls_28 (by rw [hn]; decide) rfl ?_
      exact k_sub [1, 2, 3, 4, 0] rfl (wX11_rolls_30 K hn hR (fun v1 v2 v3 σ h => wX11_rolls_71 K hn hR ih v1 v2 v3 σ h) FU _ _ _ _ _ h)
set_option maxRecDepth 100000 in
set_option maxHeartbeats 4000000 in
theorem ctX11_rolls {l : Launch} {D : va_G} {cI cZ cC cG cB : ClassId} {ad : Nat → Nat} {σ : St} {res : (Int32 × St)} (h : mX11_rolls σ = some res) : Ci l yX11_rolls wsX11_rolls 5 130 D vwCl (tysS cI cZ cC cG cB) nwS (mkS cI cZ cC cG cB ad) ad 75 [.ref (ad 0)] σ res := by
  refine c_int (cc := cX11_rolls) (maxL := 5) (by decide) rfl (Nat.le_of_ble_eq_true rfl) fun a b hn K hR => ?_
  unfold mX11_rolls at h
  have K : KS (GS l 5 130 D cI cZ cC cG cB ad a b (w_A ad 75)) cX11_rolls RX11 wsX11_rolls (some .int) := K
  have hn : x_n (GS l 5 130 D cI cZ cC cG cB ad a b (w_A ad 75)) = 5 := hn
  refine k_sub [0] rfl ?_
  refine k_iconst (x := 0) K dX11_rolls_0 (by decide) ?_
  refine k_istore_n (lv' := [(1, _), (0, _)]) K dX11_rolls_1 (by rw [hn]; decide) rfl ?_
  refine k_iconst (x := 0) K dX11_rolls_2 (by decide) ?_
  refine k_istore_n (lv' := [(2, _), (1, _), (0, _)]) K dX11_rolls_3 (by rw [hn]; decide) rfl ?_
  refine k_aload_n K dX11_rolls_4 2 rfl ?_
  refine k_get K 0 11 11 iX11_rolls_X11 (Nat.le_of_ble_eq_true rfl) ((mS_0 cI cZ cC cG cB ad) _) rfl (by decide) fX11_rolls_65 rfl dX11_rolls_5 ?_
  refine k_iconst (x := 0) K dX11_rolls_8 (by decide) ?_
  obtain ⟨⟨r1, s2⟩, e3, h⟩ := bd_some h
  dsimp only at h
  refine k_callSv K (ctJ7_fill (Nat.le_of_ble_eq_true rfl) (mS_3 cI cZ cC cG cB ad) e3) (va_cwS 2 K.ts gX11_rolls_J7_fill_53178 rfl rfl rfl hSJ7_fill_53178 ⟨Nat.le_of_ble_eq_true rfl, Nat.le_of_ble_eq_true rfl⟩) rfl rfl (Nat.le_of_ble_eq_true rfl) dX11_rolls_9 ?_
  refine k_iconst (x := 0) K dX11_rolls_12 (by decide) ?_
  refine k_istore_n (lv' := [(3, _), (2, _), (1, _), (0, _)]) K dX11_rolls_13 (by rw [hn]; decide) rfl ?_
  exact k_sub [3, 2, 1, 0] rfl (wX11_rolls_14 K hn hR FU _ _ _ _ h)
-- X11_saw (2, 43)
theorem iX11_saw_X11 : ∀ w ∈ wsX110, w ∈ wsX11_saw := fun _ h => List.mem_cons_of_mem _ (List.mem_append_left _ (List.mem_append_right _ h))
theorem fX11_saw_16 : Cond.fieldLink RX11 16 "SlopeCoins" "city" "LSlopeCoins$City;" ∈ wsX11_saw := by decide +kernel
theorem fX11_saw_69 : Cond.fieldLink RX11 69 "SlopeCoins" "seenKind" "[I" ∈ wsX11_saw := by decide +kernel
theorem fX11_saw_72 : Cond.fieldLink RX11 72 "SlopeCoins" "seenFrom" "[I" ∈ wsX11_saw := by decide +kernel
theorem fX11_saw_75 : Cond.fieldLink RX11 75 "SlopeCoins" "seenTo" "[I" ∈ wsX11_saw := by decide +kernel
theorem fX11_saw_106 : Cond.fieldLink RX11 106 "SlopeCoins" "seen" "I" ∈ wsX11_saw := by decide +kernel
set_option maxRecDepth 100000 in
set_option maxHeartbeats 4000000 in
theorem ctX11_saw {l : Launch} {D : va_G} {cI cZ cC cG cB : ClassId} {ad : Nat → Nat} {v1 : Int32} {v2 : Int32} {v3 : Int32} {σ : St} {res : (Int32 × St)} (h : mX11_saw v1 v2 v3 σ = some res) : Ci l yX11_saw wsX11_saw 2 43 D vwCl (tysS cI cZ cC cG cB) nwS (mkS cI cZ cC cG cB ad) ad 75 [.ref (ad 0), .int v1, .int v2, .int v3] σ res := by
  refine c_int (cc := cX11_saw) (maxL := 6) (by decide) rfl (Nat.le_of_ble_eq_true rfl) fun a b hn K hR => ?_
  unfold mX11_saw at h
  have K : KS (GS l 2 43 D cI cZ cC cG cB ad a b (w_A ad 75)) cX11_saw RX11 wsX11_saw (some .int) := K
  have hn : x_n (GS l 2 43 D cI cZ cC cG cB ad a b (w_A ad 75)) = 6 := hn
  refine k_sub [0, 1, 2, 3] rfl ?_
  refine k_aload_n K dX11_saw_0 0 rfl ?_
  refine k_get K 0 11 2 iX11_saw_X11 (Nat.le_of_ble_eq_true rfl) ((mS_0 cI cZ cC cG cB ad) _) rfl (by decide) fX11_saw_16 rfl dX11_saw_1 ?_
  refine k_iload_n K dX11_saw_4 2 rfl ?_
  obtain ⟨⟨r1, s2⟩, e3, h⟩ := bd_some h
  dsimp only at h
  refine k_callVi K 10 2 (Nat.le_of_ble_eq_true rfl) ((mS_10 cI cZ cC cG cB ad) _) rfl (ctX2_cellOfPair (by decide) e3) (cwV 1 K.ts gX11_saw_X2_cellOfPair rfl rfl rfl hVX2_cellOfPair ⟨Nat.le_of_ble_eq_true rfl, Nat.le_of_ble_eq_true rfl⟩) rfl rfl (Nat.le_of_ble_eq_true rfl) dX11_saw_5 ?_
  refine k_istore (lv' := [(4, _), (0, _), (1, _), (2, _), (3, _)]) K dX11_saw_8 (by rw [hn]; decide) rfl ?_
  refine k_aload_n K dX11_saw_10 1 rfl ?_
  refine k_get K 0 11 2 iX11_saw_X11 (Nat.le_of_ble_eq_true rfl) ((mS_0 cI cZ cC cG cB ad) _) rfl (by decide) fX11_saw_16 rfl dX11_saw_11 ?_
  refine k_iload_n K dX11_saw_14 4 rfl ?_
  obtain ⟨⟨r4, s5⟩, e6, h⟩ := bd_some h
  dsimp only at h
  refine k_callVi K 10 2 (Nat.le_of_ble_eq_true rfl) ((mS_10 cI cZ cC cG cB ad) _) rfl (ctX2_cellOfPair (by decide) e6) (cwV 1 K.ts gX11_saw_X2_cellOfPair rfl rfl rfl hVX2_cellOfPair ⟨Nat.le_of_ble_eq_true rfl, Nat.le_of_ble_eq_true rfl⟩) rfl rfl (Nat.le_of_ble_eq_true rfl) dX11_saw_15 ?_
  refine k_istore (lv' := [(5, _), (4, _), (0, _), (1, _), (2, _), (3, _)]) K dX11_saw_18 (by rw [hn]; decide) rfl ?_
  refine k_aload_n K dX11_saw_20 2 rfl ?_
  refine k_iload_n K dX11_saw_21 3 rfl ?_
  obtain ⟨⟨r7, s8⟩, e9, h⟩ := bd_some h
  dsimp only at h
  refine k_callVi K 0 11 (Nat.le_of_ble_eq_true rfl) ((mS_0 cI cZ cC cG cB ad) _) rfl (ctX11_isKind e9) (cwV 1 K.ts gX11_saw_X11_isKind rfl rfl rfl hVX11_isKind ⟨Nat.le_of_ble_eq_true rfl, Nat.le_of_ble_eq_true rfl⟩) rfl rfl (Nat.le_of_ble_eq_true rfl) dX11_saw_22 ?_
  refine k_if_eq (tgt := 40) K dX11_saw_25 (by decide) (fun q => ?_) (fun q => ?_)
  · have h := if_t q h
    refine k_iconst (x := (-1)) K dX11_saw_40 (by decide) ?_
    exact ret_i hR h dX11_saw_41 trivial
  · have h := if_f q h
    refine k_iload K dX11_saw_28 1 rfl ?_
    refine k_iconst (x := (-1)) K dX11_saw_30 (by decide) ?_
    refine k_icmp_eq (tgt := 40) K dX11_saw_31 (by decide) (fun q => ?_) (fun q => ?_)
    · have h := if_t q h
      refine k_iconst (x := (-1)) K dX11_saw_40 (by decide) ?_
      exact ret_i hR h dX11_saw_41 trivial
    · have h := if_f q h
      refine k_iload K dX11_saw_34 0 rfl ?_
      refine k_iconst (x := (-1)) K dX11_saw_36 (by decide) ?_
      refine k_icmp_ne (tgt := 42) K dX11_saw_37 (by decide) (fun q => ?_) (fun q => ?_)
      · have h := if_f q h
        refine k_aload_n K dX11_saw_42 2 rfl ?_
        refine k_get K 0 11 15 iX11_saw_X11 (Nat.le_of_ble_eq_true rfl) ((mS_0 cI cZ cC cG cB ad) _) rfl (by decide) fX11_saw_106 rfl dX11_saw_43 ?_
        refine k_bipush (x := 6) K dX11_saw_46 (by decide) ?_
        refine k_icmp_lt (tgt := 54) K dX11_saw_48 (by decide) (fun q => ?_) (fun q => ?_)
        · have h := if_t q h
          refine k_aload_n K dX11_saw_54 2 rfl ?_
          refine k_get K 0 11 12 iX11_saw_X11 (Nat.le_of_ble_eq_true rfl) ((mS_0 cI cZ cC cG cB ad) _) rfl (by decide) fX11_saw_69 rfl dX11_saw_55 ?_
          refine k_aload_n K dX11_saw_58 2 rfl ?_
          refine k_get K 0 11 15 iX11_saw_X11 (Nat.le_of_ble_eq_true rfl) ((mS_0 cI cZ cC cG cB ad) _) rfl (by decide) fX11_saw_106 rfl dX11_saw_59 ?_
          refine k_iload_n K dX11_saw_62 3 rfl ?_
          obtain ⟨g10, h⟩ := gd_some h
          have h := lt_some h
          refine k_ist K 4 0 (Nat.le_of_ble_eq_true rfl) (mS_4 cI cZ cC cG cB ad) rfl g10 dX11_saw_63 ?_
          refine k_aload_n K dX11_saw_64 2 rfl ?_
          refine k_get K 0 11 13 iX11_saw_X11 (Nat.le_of_ble_eq_true rfl) ((mS_0 cI cZ cC cG cB ad) _) rfl (by decide) fX11_saw_72 rfl dX11_saw_65 ?_
          refine k_aload_n K dX11_saw_68 2 rfl ?_
          refine k_get K 0 11 15 iX11_saw_X11 (Nat.le_of_ble_eq_true rfl) ((mS_0 cI cZ cC cG cB ad) _) rfl (by decide) fX11_saw_106 rfl dX11_saw_69 ?_
          refine k_iload K dX11_saw_72 1 rfl ?_
          obtain ⟨g12, h⟩ := gd_some h
          have h := lt_some h
          refine k_ist K 5 0 (Nat.le_of_ble_eq_true rfl) (mS_5 cI cZ cC cG cB ad) rfl g12 dX11_saw_74 ?_
          refine k_aload_n K dX11_saw_75 2 rfl ?_
          refine k_get K 0 11 14 iX11_saw_X11 (Nat.le_of_ble_eq_true rfl) ((mS_0 cI cZ cC cG cB ad) _) rfl (by decide) fX11_saw_75 rfl dX11_saw_76 ?_
          refine k_aload_n K dX11_saw_79 2 rfl ?_
          refine k_get K 0 11 15 iX11_saw_X11 (Nat.le_of_ble_eq_true rfl) ((mS_0 cI cZ cC cG cB ad) _) rfl (by decide) fX11_saw_106 rfl dX11_saw_80 ?_
          refine k_iload K dX11_saw_83 0 rfl ?_
          obtain ⟨g14, h⟩ := gd_some h
          have h := lt_some h
          refine k_ist K 6 0 (Nat.le_of_ble_eq_true rfl) (mS_6 cI cZ cC cG cB ad) rfl g14 dX11_saw_85 ?_
          refine k_aload_n K dX11_saw_86 2 rfl ?_
          refine k_dup K dX11_saw_87 rfl ?_
          refine k_get K 0 11 15 iX11_saw_X11 (Nat.le_of_ble_eq_true rfl) ((mS_0 cI cZ cC cG cB ad) _) rfl (by decide) fX11_saw_106 rfl dX11_saw_88 ?_
          refine k_iconst (x := 1) K dX11_saw_91 (by decide) ?_
          refine k_iadd K dX11_saw_92 ?_
          have h := lt_some h
          refine k_putI K 0 11 15 tyX11 tyX11_ok nmX11 iX11_saw_X11 (Nat.le_of_ble_eq_true rfl) ((mS_0 cI cZ cC cG cB ad) _) rfl (by decide) fX11_saw_106 rfl (by decide +kernel) (Nat.le_of_ble_eq_true rfl) (pS_0_15 cI cZ cC cG cB ad _ _) dX11_saw_93 ?_
          refine k_aload_n K dX11_saw_96 2 rfl ?_
          refine k_get K 0 11 15 iX11_saw_X11 (Nat.le_of_ble_eq_true rfl) ((mS_0 cI cZ cC cG cB ad) _) rfl (by decide) fX11_saw_106 rfl dX11_saw_97 ?_
          exact ret_i hR h dX11_saw_100 trivial
        · have h := if_f q h
          refine k_bipush (x := (-3)) K dX11_saw_51 (by decide) ?_
          exact ret_i hR h dX11_saw_53 trivial
      · have h := if_t q h
        refine k_iconst (x := (-1)) K dX11_saw_40 (by decide) ?_
        exact ret_i hR h dX11_saw_41 trivial
-- X11_forget (0, 0)
theorem iX11_forget_X11 : ∀ w ∈ wsX110, w ∈ wsX11_forget := fun _ h => List.mem_cons_of_mem _ (List.mem_append_right _ h)
theorem fX11_forget_106 : Cond.fieldLink RX11 106 "SlopeCoins" "seen" "I" ∈ wsX11_forget := by decide +kernel
set_option maxRecDepth 100000 in
set_option maxHeartbeats 4000000 in
theorem ctX11_forget {l : Launch} {D : va_G} {cI cZ cC cG cB : ClassId} {ad : Nat → Nat} {σ : St} {res : (Int32 × St)} (h : mX11_forget σ = some res) : Ci l yX11_forget wsX11_forget 0 0 D vwCl (tysS cI cZ cC cG cB) nwS (mkS cI cZ cC cG cB ad) ad 75 [.ref (ad 0)] σ res := by
  refine c_int (cc := cX11_forget) (maxL := 2) (by decide) rfl (Nat.le_of_ble_eq_true rfl) fun a b hn K hR => ?_
  unfold mX11_forget at h
  have K : KS (GS l 0 0 D cI cZ cC cG cB ad a b (w_A ad 75)) cX11_forget RX11 wsX11_forget (some .int) := K
  have hn : x_n (GS l 0 0 D cI cZ cC cG cB ad a b (w_A ad 75)) = 2 := hn
  refine k_sub [0] rfl ?_
  refine k_aload_n K dX11_forget_0 0 rfl ?_
  refine k_get K 0 11 15 iX11_forget_X11 (Nat.le_of_ble_eq_true rfl) ((mS_0 cI cZ cC cG cB ad) _) rfl (by decide) fX11_forget_106 rfl dX11_forget_1 ?_
  have h := lt_some h
  refine k_istore_n (lv' := [(1, _), (0, _)]) K dX11_forget_4 (by rw [hn]; decide) rfl ?_
  refine k_aload_n K dX11_forget_5 1 rfl ?_
  refine k_iconst (x := 0) K dX11_forget_6 (by decide) ?_
  have h := lt_some h
  refine k_putI K 0 11 15 tyX11 tyX11_ok nmX11 iX11_forget_X11 (Nat.le_of_ble_eq_true rfl) ((mS_0 cI cZ cC cG cB ad) _) rfl (by decide) fX11_forget_106 rfl (by decide +kernel) (Nat.le_of_ble_eq_true rfl) (pS_0_15 cI cZ cC cG cB ad _ _) dX11_forget_7 ?_
  refine k_iload_n K dX11_forget_10 0 rfl ?_
  exact ret_i hR h dX11_forget_11 trivial
-- X11_isSoWithCobble (5, 128)
theorem iX11_isSoWithCobble_X11 : ∀ w ∈ wsX110, w ∈ wsX11_isSoWithCobble := fun _ h => List.mem_cons_of_mem _ (List.mem_append_left _ (List.mem_append_left _ (List.mem_append_left _ (List.mem_append_right _ h))))
theorem iX11_isSoWithCobble_X3 : ∀ w ∈ wsX30, w ∈ wsX11_isSoWithCobble := fun _ h => List.mem_cons_of_mem _ (List.mem_append_left _ (List.mem_append_left _ (List.mem_append_right _ h)))
theorem fX11_isSoWithCobble_33 : Cond.fieldLink RX11 33 "SlopeCoins" "ground" "LSlopeCoins$Ground;" ∈ wsX11_isSoWithCobble := by decide +kernel
theorem fX11_isSoWithCobble_113 : Cond.fieldLink RX11 113 "SlopeCoins$Ground" "height" "[I" ∈ wsX11_isSoWithCobble := by decide +kernel
set_option maxRecDepth 100000 in
set_option maxHeartbeats 4000000 in
theorem ctX11_isSoWithCobble {l : Launch} {D : va_G} {cI cZ cC cG cB : ClassId} {ad : Nat → Nat} {v1 : Int32} {v2 : Int32} {σ : St} {res : (Int32 × St)} (h : mX11_isSoWithCobble v1 v2 σ = some res) : Ci l yX11_isSoWithCobble wsX11_isSoWithCobble 5 128 D vwCl (tysS cI cZ cC cG cB) nwS (mkS cI cZ cC cG cB ad) ad 75 [.ref (ad 0), .int v1, .int v2] σ res := by
  refine c_bool (cc := cX11_isSoWithCobble) (maxL := 4) (by decide) rfl (Nat.le_of_ble_eq_true rfl) fun a b hn K hR => ?_
  unfold mX11_isSoWithCobble at h
  have K : KS (GS l 5 128 D cI cZ cC cG cB ad a b (w_A ad 75)) cX11_isSoWithCobble RX11 wsX11_isSoWithCobble (some .boolean) := K
  have hn : x_n (GS l 5 128 D cI cZ cC cG cB ad a b (w_A ad 75)) = 4 := hn
  refine k_sub [0, 1, 2] rfl ?_
  refine k_aload_n K dX11_isSoWithCobble_0 0 rfl ?_
  refine k_get K 0 11 5 iX11_isSoWithCobble_X11 (Nat.le_of_ble_eq_true rfl) ((mS_0 cI cZ cC cG cB ad) _) rfl (by decide) fX11_isSoWithCobble_33 rfl dX11_isSoWithCobble_1 ?_
  refine k_get K 26 3 2 iX11_isSoWithCobble_X3 (Nat.le_of_ble_eq_true rfl) ((mS_26 cI cZ cC cG cB ad) _) rfl (by decide) fX11_isSoWithCobble_113 rfl dX11_isSoWithCobble_4 ?_
  refine k_iload_n K dX11_isSoWithCobble_7 1 rfl ?_
  obtain ⟨g1, h⟩ := gd_some h
  refine k_ild K 27 0 (Nat.le_of_ble_eq_true rfl) ((mS_27 cI cZ cC cG cB ad) _) rfl g1 dX11_isSoWithCobble_8 ?_
  refine k_iload_n K dX11_isSoWithCobble_9 2 rfl ?_
  refine k_iadd K dX11_isSoWithCobble_10 ?_
  obtain ⟨⟨r2, s3⟩, e4, h⟩ := bd_some h
  dsimp only at h
  refine k_callSi K (ctX11_isHeight e4) (va_cwS 1 K.ts gX11_isSoWithCobble_X11_isHeight rfl rfl rfl hSX11_isHeight ⟨Nat.le_of_ble_eq_true rfl, Nat.le_of_ble_eq_true rfl⟩) rfl rfl (Nat.le_of_ble_eq_true rfl) dX11_isSoWithCobble_11 ?_
  refine k_if_ne (tgt := 19) K dX11_isSoWithCobble_14 (by decide) (fun q => ?_) (fun q => ?_)
  · have h := if_f q h
    refine k_aload_n K dX11_isSoWithCobble_19 0 rfl ?_
    refine k_get K 0 11 5 iX11_isSoWithCobble_X11 (Nat.le_of_ble_eq_true rfl) ((mS_0 cI cZ cC cG cB ad) _) rfl (by decide) fX11_isSoWithCobble_33 rfl dX11_isSoWithCobble_20 ?_
    refine k_get K 26 3 2 iX11_isSoWithCobble_X3 (Nat.le_of_ble_eq_true rfl) ((mS_26 cI cZ cC cG cB ad) _) rfl (by decide) fX11_isSoWithCobble_113 rfl dX11_isSoWithCobble_23 ?_
    refine k_iload_n K dX11_isSoWithCobble_26 1 rfl ?_
    refine k_dup2 K dX11_isSoWithCobble_27 rfl rfl ?_
    obtain ⟨g5, h⟩ := gd_some h
    refine k_ild K 27 0 (Nat.le_of_ble_eq_true rfl) ((mS_27 cI cZ cC cG cB ad) _) rfl g5 dX11_isSoWithCobble_28 ?_
    refine k_iload_n K dX11_isSoWithCobble_29 2 rfl ?_
    refine k_iadd K dX11_isSoWithCobble_30 ?_
    obtain ⟨g6, h⟩ := gd_some h
    have h := lt_some h
    refine k_ist K 27 0 (Nat.le_of_ble_eq_true rfl) (mS_27 cI cZ cC cG cB ad) rfl g6 dX11_isSoWithCobble_31 ?_
    refine k_aload_n K dX11_isSoWithCobble_32 0 rfl ?_
    obtain ⟨⟨r8, s9⟩, e10, h⟩ := bd_some h
    dsimp only at h
    refine k_callVi K 0 11 (Nat.le_of_ble_eq_true rfl) ((mS_0 cI cZ cC cG cB ad) _) rfl (ctX11_allSeenIsSo e10) (cwV 0 K.ts gX11_isSoWithCobble_X11_allSeenIsSo rfl rfl rfl hVX11_allSeenIsSo ⟨Nat.le_of_ble_eq_true rfl, Nat.le_of_ble_eq_true rfl⟩) rfl rfl (Nat.le_of_ble_eq_true rfl) dX11_isSoWithCobble_33 ?_
    refine k_istore_n (lv' := [(3, _), (0, _), (1, _), (2, _)]) K dX11_isSoWithCobble_36 (by rw [hn]; decide) rfl ?_
    refine k_aload_n K dX11_isSoWithCobble_37 1 rfl ?_
    refine k_get K 0 11 5 iX11_isSoWithCobble_X11 (Nat.le_of_ble_eq_true rfl) ((mS_0 cI cZ cC cG cB ad) _) rfl (by decide) fX11_isSoWithCobble_33 rfl dX11_isSoWithCobble_38 ?_
    refine k_get K 26 3 2 iX11_isSoWithCobble_X3 (Nat.le_of_ble_eq_true rfl) ((mS_26 cI cZ cC cG cB ad) _) rfl (by decide) fX11_isSoWithCobble_113 rfl dX11_isSoWithCobble_41 ?_
    refine k_iload_n K dX11_isSoWithCobble_44 2 rfl ?_
    refine k_dup2 K dX11_isSoWithCobble_45 rfl rfl ?_
    obtain ⟨g11, h⟩ := gd_some h
    refine k_ild K 27 0 (Nat.le_of_ble_eq_true rfl) ((mS_27 cI cZ cC cG cB ad) _) rfl g11 dX11_isSoWithCobble_46 ?_
    refine k_iload_n K dX11_isSoWithCobble_47 3 rfl ?_
    refine k_isub K dX11_isSoWithCobble_48 ?_
    obtain ⟨g12, h⟩ := gd_some h
    have h := lt_some h
    refine k_ist K 27 0 (Nat.le_of_ble_eq_true rfl) (mS_27 cI cZ cC cG cB ad) rfl g12 dX11_isSoWithCobble_49 ?_
    refine k_iload_n K dX11_isSoWithCobble_50 0 rfl ?_
    obtain ⟨g14, h⟩ := gd_some h
    exact ret_i hR h dX11_isSoWithCobble_51 g14
  · have h := if_t q h
    refine k_iconst (x := 0) K dX11_isSoWithCobble_17 (by decide) ?_
    exact ret_i hR h dX11_isSoWithCobble_18 zb_0
-- X11_moved (6, 151)
theorem iX11_moved_X11 : ∀ w ∈ wsX110, w ∈ wsX11_moved := fun _ h => List.mem_cons_of_mem _ (List.mem_append_left _ (List.mem_append_left _ (List.mem_append_left _ (List.mem_append_right _ h))))
theorem iX11_moved_X2 : ∀ w ∈ wsX20, w ∈ wsX11_moved := fun _ h => List.mem_cons_of_mem _ (List.mem_append_left _ (List.mem_append_left _ (List.mem_append_right _ h)))
theorem fX11_moved_16 : Cond.fieldLink RX11 16 "SlopeCoins" "city" "LSlopeCoins$City;" ∈ wsX11_moved := by decide +kernel
theorem fX11_moved_232 : Cond.fieldLink RX11 232 "SlopeCoins$City" "cells" "I" ∈ wsX11_moved := by decide +kernel
set_option maxRecDepth 100000 in
set_option maxHeartbeats 4000000 in
theorem wX11_moved_95 {l : Launch} {D : va_G} {cI cZ cC cG cB : ClassId} {ad : Nat → Nat} {a : Program × Env × State × MethodId} {b : Array Value × List Frame × Method × Code × (State → Prop) × Nat} {A : Nat → Prop} (K : KS (GS l 6 151 D cI cZ cC cG cB ad a b A) cX11_moved RX11 wsX11_moved (some .int)) (hn : x_n (GS l 6 151 D cI cZ cC cG cB ad a b A) = 6) {res : (Int32 × St)} (hR : HRi (GS l 6 151 D cI cZ cC cG cB ad a b A) cX11_moved tb res) : ∀ (v1 : Int32), ∀ (v2 : Int32), ∀ (v3 : Int32), ∀ (σ : St), mX11_moved_95 v1 v2 v3 σ = some res → Wk (GS l 6 151 D cI cZ cC cG cB ad a b A) 95 [(1, .int v1), (2, .int v2), (3, .int v3)] [] σ := by
  intro v1 v2 v3 σ h
  unfold mX11_moved_95 at h
  refine k_iload_n K dX11_moved_95 0 rfl ?_
  refine k_if_ne (tgt := 103) K dX11_moved_96 (by decide) (fun q => ?_) (fun q => ?_)
  · have h := if_f q h
    refine k_iload_n K dX11_moved_103 2 rfl ?_
    exact ret_i hR h dX11_moved_104 trivial
  · have h := if_t q h
    refine k_iload_n K dX11_moved_99 1 rfl ?_
    refine k_goto (tgt := 104) K dX11_moved_100 (by decide) ?_
    exact ret_i hR h dX11_moved_104 trivial
set_option maxRecDepth 100000 in
set_option maxHeartbeats 4000000 in
theorem wX11_moved_89 {l : Launch} {D : va_G} {cI cZ cC cG cB : ClassId} {ad : Nat → Nat} {a : Program × Env × State × MethodId} {b : Array Value × List Frame × Method × Code × (State → Prop) × Nat} {A : Nat → Prop} {k95 : Int32 → Int32 → Int32 → St → Option (Int32 × St)} {rc : Int32 → Int32 → Int32 → Int32 → St → Option (Int32 × St)} (K : KS (GS l 6 151 D cI cZ cC cG cB ad a b A) cX11_moved RX11 wsX11_moved (some .int)) (hn : x_n (GS l 6 151 D cI cZ cC cG cB ad a b A) = 6) {res : (Int32 × St)} (hR : HRi (GS l 6 151 D cI cZ cC cG cB ad a b A) cX11_moved tb res) (hk95 : ∀ (v1 : Int32) (v2 : Int32) (v3 : Int32) (σ : St), k95 v1 v2 v3 σ = some res → Wk (GS l 6 151 D cI cZ cC cG cB ad a b A) 95 [(1, .int v1), (2, .int v2), (3, .int v3)] [] σ) (hrc : ∀ (v1 : Int32) (v2 : Int32) (v3 : Int32) (v4 : Int32) (σ : St), rc v1 v2 v3 v4 σ = some res → Wk (GS l 6 151 D cI cZ cC cG cB ad a b A) 19 [(0, .ref (ad 0)), (1, .int v1), (2, .int v2), (3, .int v3), (4, .int v4)] [] σ) : ∀ (v1 : Int32), ∀ (v2 : Int32), ∀ (v3 : Int32), ∀ (v4 : Int32), ∀ (σ : St), mX11_moved_89 k95 rc v1 v2 v3 v4 σ = some res → Wk (GS l 6 151 D cI cZ cC cG cB ad a b A) 89 [(0, .ref (ad 0)), (1, .int v1), (2, .int v2), (3, .int v3), (4, .int v4)] [] σ := by
  intro v1 v2 v3 v4 σ h
  unfold mX11_moved_89 at h
  have h := lt_some h
  refine k_iinc (lv' := [(4, _), (0, _), (1, _), (2, _), (3, _)]) K dX11_moved_89 4 rfl (v := _ + 1) (by rfl) (by rw [hn]; decide) rfl ?_
  refine k_goto (tgt := 19) K dX11_moved_92 (by decide) ?_
  exact k_sub [1, 2, 3, 4, 0] rfl (hrc _ _ _ _ _ h)
set_option maxRecDepth 100000 in
set_option maxHeartbeats 4000000 in
theorem wX11_moved_83 {l : Launch} {D : va_G} {cI cZ cC cG cB : ClassId} {ad : Nat → Nat} {a : Program × Env × State × MethodId} {b : Array Value × List Frame × Method × Code × (State → Prop) × Nat} {A : Nat → Prop} {k89 : Int32 → Int32 → Int32 → Int32 → St → Option (Int32 × St)} {rc : Int32 → Int32 → Int32 → Int32 → Int32 → St → Option (Int32 × St)} (K : KS (GS l 6 151 D cI cZ cC cG cB ad a b A) cX11_moved RX11 wsX11_moved (some .int)) (hn : x_n (GS l 6 151 D cI cZ cC cG cB ad a b A) = 6) {res : (Int32 × St)} (hR : HRi (GS l 6 151 D cI cZ cC cG cB ad a b A) cX11_moved tb res) (hk89 : ∀ (v1 : Int32) (v2 : Int32) (v3 : Int32) (v4 : Int32) (σ : St), k89 v1 v2 v3 v4 σ = some res → Wk (GS l 6 151 D cI cZ cC cG cB ad a b A) 89 [(0, .ref (ad 0)), (1, .int v1), (2, .int v2), (3, .int v3), (4, .int v4)] [] σ) (hrc : ∀ (v1 : Int32) (v2 : Int32) (v3 : Int32) (v4 : Int32) (v5 : Int32) (σ : St), rc v1 v2 v3 v4 v5 σ = some res → Wk (GS l 6 151 D cI cZ cC cG cB ad a b A) 34 [(0, .ref (ad 0)), (1, .int v1), (2, .int v2), (3, .int v3), (4, .int v4), (5, .int v5)] [] σ) : ∀ (v1 : Int32), ∀ (v2 : Int32), ∀ (v3 : Int32), ∀ (v4 : Int32), ∀ (v5 : Int32), ∀ (σ : St), mX11_moved_83 k89 rc v1 v2 v3 v4 v5 σ = some res → Wk (GS l 6 151 D cI cZ cC cG cB ad a b A) 83 [(0, .ref (ad 0)), (1, .int v1), (2, .int v2), (3, .int v3), (4, .int v4), (5, .int v5)] [] σ := by
  intro v1 v2 v3 v4 v5 σ h
  unfold mX11_moved_83 at h
  have h := lt_some h
  refine k_iinc (lv' := [(5, _), (0, _), (1, _), (2, _), (3, _), (4, _)]) K dX11_moved_83 5 rfl (v := _ + 1) (by rfl) (by rw [hn]; decide) rfl ?_
  refine k_goto (tgt := 34) K dX11_moved_86 (by decide) ?_
  exact k_sub [1, 2, 3, 4, 5, 0] rfl (hrc _ _ _ _ _ _ h)
set_option maxRecDepth 100000 in
set_option maxHeartbeats 4000000 in
theorem wX11_moved_80 {l : Launch} {D : va_G} {cI cZ cC cG cB : ClassId} {ad : Nat → Nat} {a : Program × Env × State × MethodId} {b : Array Value × List Frame × Method × Code × (State → Prop) × Nat} {A : Nat → Prop} {k89 : Int32 → Int32 → Int32 → Int32 → St → Option (Int32 × St)} {rc : Int32 → Int32 → Int32 → Int32 → Int32 → St → Option (Int32 × St)} (K : KS (GS l 6 151 D cI cZ cC cG cB ad a b A) cX11_moved RX11 wsX11_moved (some .int)) (hn : x_n (GS l 6 151 D cI cZ cC cG cB ad a b A) = 6) {res : (Int32 × St)} (hR : HRi (GS l 6 151 D cI cZ cC cG cB ad a b A) cX11_moved tb res) (hk89 : ∀ (v1 : Int32) (v2 : Int32) (v3 : Int32) (v4 : Int32) (σ : St), k89 v1 v2 v3 v4 σ = some res → Wk (GS l 6 151 D cI cZ cC cG cB ad a b A) 89 [(0, .ref (ad 0)), (1, .int v1), (2, .int v2), (3, .int v3), (4, .int v4)] [] σ) (hrc : ∀ (v1 : Int32) (v2 : Int32) (v3 : Int32) (v4 : Int32) (v5 : Int32) (σ : St), rc v1 v2 v3 v4 v5 σ = some res → Wk (GS l 6 151 D cI cZ cC cG cB ad a b A) 34 [(0, .ref (ad 0)), (1, .int v1), (2, .int v2), (3, .int v3), (4, .int v4), (5, .int v5)] [] σ) : ∀ (v1 : Int32), ∀ (v2 : Int32), ∀ (v3 : Int32), ∀ (v4 : Int32), ∀ (v5 : Int32), ∀ (σ : St), mX11_moved_80 k89 rc v1 v2 v3 v4 v5 σ = some res → Wk (GS l 6 151 D cI cZ cC cG cB ad a b A) 80 [(0, .ref (ad 0)), (1, .int v1), (2, .int v2), (3, .int v3), (4, .int v4), (5, .int v5)] [] σ := by
  intro v1 v2 v3 v4 v5 σ h
  unfold mX11_moved_80 at h
  have h := lt_some h
  refine k_iinc (lv' := [(2, _), (0, _), (1, _), (3, _), (4, _), (5, _)]) K dX11_moved_80 2 rfl (v := _ + 1) (by rfl) (by rw [hn]; decide) rfl ?_
  exact k_sub [1, 2, 0, 3, 4, 5] rfl (wX11_moved_83 K hn hR hk89 hrc _ _ _ _ _ _ h)
set_option maxRecDepth 100000 in
set_option maxHeartbeats 4000000 in
theorem wX11_moved_54 {l : Launch} {D : va_G} {cI cZ cC cG cB : ClassId} {ad : Nat → Nat} {a : Program × Env × State × MethodId} {b : Array Value × List Frame × Method × Code × (State → Prop) × Nat} {A : Nat → Prop} {k89 : Int32 → Int32 → Int32 → Int32 → St → Option (Int32 × St)} {rc : Int32 → Int32 → Int32 → Int32 → Int32 → St → Option (Int32 × St)} (K : KS (GS l 6 151 D cI cZ cC cG cB ad a b A) cX11_moved RX11 wsX11_moved (some .int)) (hn : x_n (GS l 6 151 D cI cZ cC cG cB ad a b A) = 6) {res : (Int32 × St)} (hR : HRi (GS l 6 151 D cI cZ cC cG cB ad a b A) cX11_moved tb res) (hk89 : ∀ (v1 : Int32) (v2 : Int32) (v3 : Int32) (v4 : Int32) (σ : St), k89 v1 v2 v3 v4 σ = some res → Wk (GS l 6 151 D cI cZ cC cG cB ad a b A) 89 [(0, .ref (ad 0)), (1, .int v1), (2, .int v2), (3, .int v3), (4, .int v4)] [] σ) (hrc : ∀ (v1 : Int32) (v2 : Int32) (v3 : Int32) (v4 : Int32) (v5 : Int32) (σ : St), rc v1 v2 v3 v4 v5 σ = some res → Wk (GS l 6 151 D cI cZ cC cG cB ad a b A) 34 [(0, .ref (ad 0)), (1, .int v1), (2, .int v2), (3, .int v3), (4, .int v4), (5, .int v5)] [] σ) : ∀ (v1 : Int32), ∀ (v2 : Int32), ∀ (v3 : Int32), ∀ (v4 : Int32), ∀ (v5 : Int32), ∀ (t0 : Int32), ∀ (t1 : Int32), ∀ (σ : St), mX11_moved_54 k89 rc v1 v2 v3 v4 v5 t0 t1 σ = some res → Wk (GS l 6 151 D cI cZ cC cG cB ad a b A) 54 [(0, .ref (ad 0)), (1, .int v1), (2, .int v2), (3, .int v3), (4, .int v4), (5, .int v5)] [.int t0, .int t1, .ref (ad 0)] σ := by
  intro v1 v2 v3 v4 v5 t0 t1 σ h
  unfold mX11_moved_54 at h
  obtain ⟨⟨r2, s3⟩, e4, h⟩ := bd_some h
  dsimp only at h
  refine k_callVi K 0 11 (Nat.le_of_ble_eq_true rfl) ((mS_0 cI cZ cC cG cB ad) _) rfl (ctX11_isSoWithCobble e4) (cwV 2 K.ts gX11_moved_X11_isSoWithCobble rfl rfl rfl hVX11_isSoWithCobble ⟨Nat.le_of_ble_eq_true rfl, Nat.le_of_ble_eq_true rfl⟩) rfl rfl (Nat.le_of_ble_eq_true rfl) dX11_moved_54 ?_
  refine k_if_eq (tgt := 83) K dX11_moved_57 (by decide) (fun q => ?_) (fun q => ?_)
  · have h := if_t q h
    exact k_sub [0, 1, 2, 3, 4, 5] rfl (wX11_moved_83 K hn hR hk89 hrc _ _ _ _ _ _ h)
  · have h := if_f q h
    refine k_iload_n K dX11_moved_60 2 rfl ?_
    refine k_if_ne (tgt := 80) K dX11_moved_61 (by decide) (fun q => ?_) (fun q => ?_)
    · have h := if_f q h
      exact k_sub [0, 1, 2, 3, 4, 5] rfl (wX11_moved_80 K hn hR hk89 hrc _ _ _ _ _ _ h)
    · have h := if_t q h
      refine k_bipush (x := 10) K dX11_moved_64 (by decide) ?_
      refine k_aload_n K dX11_moved_66 0 rfl ?_
      refine k_get K 0 11 2 iX11_moved_X11 (Nat.le_of_ble_eq_true rfl) ((mS_0 cI cZ cC cG cB ad) _) rfl (by decide) fX11_moved_16 rfl dX11_moved_67 ?_
      refine k_iload K dX11_moved_70 4 rfl ?_
      obtain ⟨⟨r7, s8⟩, e9, h⟩ := bd_some h
      dsimp only at h
      refine k_callVi K 10 2 (Nat.le_of_ble_eq_true rfl) ((mS_10 cI cZ cC cG cB ad) _) rfl (ctX2_pairOf (by decide) e9) (cwV 1 K.ts gX11_moved_X2_pairOf rfl rfl rfl hVX2_pairOf ⟨Nat.le_of_ble_eq_true rfl, Nat.le_of_ble_eq_true rfl⟩) rfl rfl (Nat.le_of_ble_eq_true rfl) dX11_moved_72 ?_
      refine k_imul K dX11_moved_75 ?_
      refine k_iload K dX11_moved_76 5 rfl ?_
      refine k_iadd K dX11_moved_78 ?_
      have h := lt_some h
      refine k_istore_n (lv' := [(3, _), (0, _), (1, _), (2, _), (4, _), (5, _)]) K dX11_moved_79 (by rw [hn]; decide) rfl ?_
      exact k_sub [1, 2, 3, 0, 4, 5] rfl (wX11_moved_80 K hn hR hk89 hrc _ _ _ _ _ _ h)
set_option maxRecDepth 100000 in
set_option maxHeartbeats 4000000 in
theorem wX11_moved_34 {l : Launch} {D : va_G} {cI cZ cC cG cB : ClassId} {ad : Nat → Nat} {a : Program × Env × State × MethodId} {b : Array Value × List Frame × Method × Code × (State → Prop) × Nat} {A : Nat → Prop} {k89 : Int32 → Int32 → Int32 → Int32 → St → Option (Int32 × St)} (K : KS (GS l 6 151 D cI cZ cC cG cB ad a b A) cX11_moved RX11 wsX11_moved (some .int)) (hn : x_n (GS l 6 151 D cI cZ cC cG cB ad a b A) = 6) {res : (Int32 × St)} (hR : HRi (GS l 6 151 D cI cZ cC cG cB ad a b A) cX11_moved tb res) (hk89 : ∀ (v1 : Int32) (v2 : Int32) (v3 : Int32) (v4 : Int32) (σ : St), k89 v1 v2 v3 v4 σ = some res → Wk (GS l 6 151 D cI cZ cC cG cB ad a b A) 89 [(0, .ref (ad 0)), (1, .int v1), (2, .int v2), (3, .int v3), (4, .int v4)] [] σ) : ∀ (n : Nat) (v1 : Int32) (v2 : Int32) (v3 : Int32) (v4 : Int32) (v5 : Int32) (σ : St), mX11_moved_34 k89 n v1 v2 v3 v4 v5 σ = some res → Wk (GS l 6 151 D cI cZ cC cG cB ad a b A) 34 [(0, .ref (ad 0)), (1, .int v1), (2, .int v2), (3, .int v3), (4, .int v4), (5, .int v5)] [] σ := by
  intro n
  induction n with
  | zero => intro v1 v2 v3 v4 v5 σ h; cases h
  | succ n ih =>
    intro v1 v2 v3 v4 v5 σ h
    unfold mX11_moved_34 at h
    refine k_iload K dX11_moved_34 5 rfl ?_
    refine k_iconst (x := 1) K dX11_moved_36 (by decide) ?_
    refine k_icmp_gt (tgt := 89) K dX11_moved_37 (by decide) (fun q => ?_) (fun q => ?_)
    · have h := if_t q h
      exact k_sub [0, 1, 2, 3, 4] rfl (hk89 _ _ _ _ _ h)
    · have h := if_f q h
      refine k_aload_n K dX11_moved_40 0 rfl ?_
      refine k_iload K dX11_moved_41 4 rfl ?_
      refine k_iload K dX11_moved_43 5 rfl ?_
      refine k_iconst (x := 1) K dX11_moved_45 (by decide) ?_
      refine k_icmp_ne (tgt := 53) K dX11_moved_46 (by decide) (fun q => ?_) (fun q => ?_)
      · have h := if_f q h
        refine k_iconst (x := (-1)) K dX11_moved_53 (by decide) ?_
        exact k_sub [0, 1, 2, 3, 4, 5] rfl (wX11_moved_54 K hn hR hk89 ih _ _ _ _ _ _ _ _ h)
      · have h := if_t q h
        refine k_iconst (x := 1) K dX11_moved_49 (by decide) ?_
        refine k_goto (tgt := 54) K dX11_moved_50 (by decide) ?_
        exact k_sub [0, 1, 2, 3, 4, 5] rfl (wX11_moved_54 K hn hR hk89 ih _ _ _ _ _ _ _ _ h)
set_option maxRecDepth 100000 in
set_option maxHeartbeats 4000000 in
theorem wX11_moved_19 {l : Launch} {D : va_G} {cI cZ cC cG cB : ClassId} {ad : Nat → Nat} {a : Program × Env × State × MethodId} {b : Array Value × List Frame × Method × Code × (State → Prop) × Nat} {A : Nat → Prop} {k95 : Int32 → Int32 → Int32 → St → Option (Int32 × St)} (K : KS (GS l 6 151 D cI cZ cC cG cB ad a b A) cX11_moved RX11 wsX11_moved (some .int)) (hn : x_n (GS l 6 151 D cI cZ cC cG cB ad a b A) = 6) {res : (Int32 × St)} (hR : HRi (GS l 6 151 D cI cZ cC cG cB ad a b A) cX11_moved tb res) (hk95 : ∀ (v1 : Int32) (v2 : Int32) (v3 : Int32) (σ : St), k95 v1 v2 v3 σ = some res → Wk (GS l 6 151 D cI cZ cC cG cB ad a b A) 95 [(1, .int v1), (2, .int v2), (3, .int v3)] [] σ) : ∀ (n : Nat) (v1 : Int32) (v2 : Int32) (v3 : Int32) (v4 : Int32) (σ : St), mX11_moved_19 k95 n v1 v2 v3 v4 σ = some res → Wk (GS l 6 151 D cI cZ cC cG cB ad a b A) 19 [(0, .ref (ad 0)), (1, .int v1), (2, .int v2), (3, .int v3), (4, .int v4)] [] σ := by
  intro n
  induction n with
  | zero => intro v1 v2 v3 v4 σ h; cases h
  | succ n ih =>
    intro v1 v2 v3 v4 σ h
    unfold mX11_moved_19 at h
    refine k_iload K dX11_moved_19 4 rfl ?_
    refine k_aload_n K dX11_moved_21 0 rfl ?_
    refine k_get K 0 11 2 iX11_moved_X11 (Nat.le_of_ble_eq_true rfl) ((mS_0 cI cZ cC cG cB ad) _) rfl (by decide) fX11_moved_16 rfl dX11_moved_22 ?_
    refine k_get K 10 2 2 iX11_moved_X2 (Nat.le_of_ble_eq_true rfl) ((mS_10 cI cZ cC cG cB ad) _) rfl (by decide) fX11_moved_232 rfl dX11_moved_25 ?_
    refine k_icmp_ge (tgt := 95) K dX11_moved_28 (by decide) (fun q => ?_) (fun q => ?_)
    · have h := if_f q h
      exact k_sub [1, 2, 3] rfl (hk95 _ _ _ _ h)
    · have h := if_t q h
      refine k_iconst (x := 0) K dX11_moved_31 (by decide) ?_
      refine k_istore (lv' := [(5, _), (0, _), (1, _), (2, _), (3, _), (4, _)]) K dX11_moved_32 (by rw [hn]; decide) rfl ?_
      exact k_sub [1, 2, 3, 4, 5, 0] rfl (wX11_moved_34 K hn hR (fun v1 v2 v3 v4 σ h => wX11_moved_89 K hn hR hk95 ih v1 v2 v3 v4 σ h) FU _ _ _ _ _ _ h)
set_option maxRecDepth 100000 in
set_option maxHeartbeats 4000000 in
theorem wX11_moved_11 {l : Launch} {D : va_G} {cI cZ cC cG cB : ClassId} {ad : Nat → Nat} {a : Program × Env × State × MethodId} {b : Array Value × List Frame × Method × Code × (State → Prop) × Nat} {A : Nat → Prop} (K : KS (GS l 6 151 D cI cZ cC cG cB ad a b A) cX11_moved RX11 wsX11_moved (some .int)) (hn : x_n (GS l 6 151 D cI cZ cC cG cB ad a b A) = 6) {res : (Int32 × St)} (hR : HRi (GS l 6 151 D cI cZ cC cG cB ad a b A) cX11_moved tb res) : ∀ (v1 : Int32), ∀ (σ : St), mX11_moved_11 v1 σ = some res → Wk (GS l 6 151 D cI cZ cC cG cB ad a b A) 11 [(0, .ref (ad 0)), (1, .int v1)] [] σ := by
  intro v1 σ h
  unfold mX11_moved_11 at h
  refine k_iconst (x := 0) K dX11_moved_11 (by decide) ?_
  refine k_istore_n (lv' := [(2, _), (0, _), (1, _)]) K dX11_moved_12 (by rw [hn]; decide) rfl ?_
  refine k_bipush (x := (-9)) K dX11_moved_13 (by decide) ?_
  refine k_istore_n (lv' := [(3, _), (2, _), (0, _), (1, _)]) K dX11_moved_15 (by rw [hn]; decide) rfl ?_
  refine k_iconst (x := 0) K dX11_moved_16 (by decide) ?_
  refine k_istore (lv' := [(4, _), (3, _), (2, _), (0, _), (1, _)]) K dX11_moved_17 (by rw [hn]; decide) rfl ?_
  exact k_sub [3, 4, 2, 1, 0] rfl (wX11_moved_19 K hn hR (fun v1 v2 v3 σ h => wX11_moved_95 K hn hR v1 v2 v3 σ h) FU _ _ _ _ _ h)
set_option maxRecDepth 100000 in
set_option maxHeartbeats 4000000 in
theorem ctX11_moved {l : Launch} {D : va_G} {cI cZ cC cG cB : ClassId} {ad : Nat → Nat} {v1 : Int32} {σ : St} {res : (Int32 × St)} (h : mX11_moved v1 σ = some res) : Ci l yX11_moved wsX11_moved 6 151 D vwCl (tysS cI cZ cC cG cB) nwS (mkS cI cZ cC cG cB ad) ad 75 [.ref (ad 0), .int v1] σ res := by
  refine c_int (cc := cX11_moved) (maxL := 6) (by decide) rfl (Nat.le_of_ble_eq_true rfl) fun a b hn K hR => ?_
  unfold mX11_moved at h
  have K : KS (GS l 6 151 D cI cZ cC cG cB ad a b (w_A ad 75)) cX11_moved RX11 wsX11_moved (some .int) := K
  have hn : x_n (GS l 6 151 D cI cZ cC cG cB ad a b (w_A ad 75)) = 6 := hn
  refine k_sub [0, 1] rfl ?_
  refine k_iload_n K dX11_moved_0 1 rfl ?_
  refine k_if_eq (tgt := 11) K dX11_moved_1 (by decide) (fun q => ?_) (fun q => ?_)
  · have h := if_t q h
    exact k_sub [0, 1] rfl (wX11_moved_11 K hn hR _ _ h)
  · have h := if_f q h
    refine k_iload_n K dX11_moved_4 1 rfl ?_
    refine k_iconst (x := 1) K dX11_moved_5 (by decide) ?_
    refine k_icmp_eq (tgt := 11) K dX11_moved_6 (by decide) (fun q => ?_) (fun q => ?_)
    · have h := if_t q h
      exact k_sub [0, 1] rfl (wX11_moved_11 K hn hR _ _ h)
    · have h := if_f q h
      refine k_iconst (x := (-1)) K dX11_moved_9 (by decide) ?_
      exact ret_i hR h dX11_moved_10 trivial
-- X11_isImage (0, 0)
set_option maxRecDepth 100000 in
set_option maxHeartbeats 4000000 in
theorem ctX11_isImage {l : Launch} {D : va_G} {cI cZ cC cG cB : ClassId} {ad : Nat → Nat} {v0 : Int32} {σ : St} {res : (Int32 × St)} (h : mX11_isImage v0 σ = some res) : Ci l yX11_isImage wsX11_isImage 0 0 D vwCl (tysS cI cZ cC cG cB) nwS (mkS cI cZ cC cG cB ad) ad 75 [.int v0] σ res := by
  refine c_bool (cc := cX11_isImage) (maxL := 1) (by decide) rfl (Nat.le_of_ble_eq_true rfl) fun a b hn K hR => ?_
  unfold mX11_isImage at h
  have K : KS (GS l 0 0 D cI cZ cC cG cB ad a b (w_A ad 75)) cX11_isImage RX11 wsX11_isImage (some .boolean) := K
  have hn : x_n (GS l 0 0 D cI cZ cC cG cB ad a b (w_A ad 75)) = 1 := hn
  refine k_sub [0] rfl ?_
  refine k_iload_n K dX11_isImage_0 0 rfl ?_
  refine k_if_lt (tgt := 13) K dX11_isImage_1 (by decide) (fun q => ?_) (fun q => ?_)
  · have h := if_t q h
    refine k_iconst (x := 0) K dX11_isImage_13 (by decide) ?_
    exact ret_i hR h dX11_isImage_14 zb_0
  · have h := if_f q h
    refine k_iload_n K dX11_isImage_4 0 rfl ?_
    refine k_iconst (x := 2) K dX11_isImage_5 (by decide) ?_
    refine k_icmp_ge (tgt := 13) K dX11_isImage_6 (by decide) (fun q => ?_) (fun q => ?_)
    · have h := if_f q h
      refine k_iconst (x := 0) K dX11_isImage_13 (by decide) ?_
      exact ret_i hR h dX11_isImage_14 zb_0
    · have h := if_t q h
      refine k_iconst (x := 1) K dX11_isImage_9 (by decide) ?_
      refine k_goto (tgt := 14) K dX11_isImage_10 (by decide) ?_
      exact ret_i hR h dX11_isImage_14 zb_1
-- X11_keep (3, 82)
theorem iX11_keep_X11 : ∀ w ∈ wsX110, w ∈ wsX11_keep := fun _ h => List.mem_cons_of_mem _ (List.mem_append_left _ (List.mem_append_left _ (List.mem_append_right _ h)))
theorem iX11_keep_X3 : ∀ w ∈ wsX30, w ∈ wsX11_keep := fun _ h => List.mem_cons_of_mem _ (List.mem_append_left _ (List.mem_append_right _ h))
theorem fX11_keep_33 : Cond.fieldLink RX11 33 "SlopeCoins" "ground" "LSlopeCoins$Ground;" ∈ wsX11_keep := by decide +kernel
theorem fX11_keep_37 : Cond.fieldLink RX11 37 "SlopeCoins" "images" "[LSlopeCoins$Ground;" ∈ wsX11_keep := by decide +kernel
theorem fX11_keep_41 : Cond.fieldLink RX11 41 "SlopeCoins" "kept" "[Z" ∈ wsX11_keep := by decide +kernel
theorem fX11_keep_119 : Cond.fieldLink RX11 119 "SlopeCoins$Ground" "lie" "[I" ∈ wsX11_keep := by decide +kernel
set_option maxRecDepth 100000 in
set_option maxHeartbeats 4000000 in
theorem ctX11_keep {l : Launch} {D : va_G} {cI cZ cC cG cB : ClassId} {ad : Nat → Nat} {v1 : Int32} {σ : St} {res : (Int32 × St)} (h : mX11_keep v1 σ = some res) : Ci l yX11_keep wsX11_keep 3 82 D vwCl (tysS cI cZ cC cG cB) nwS (mkS cI cZ cC cG cB ad) ad 75 [.ref (ad 0), .int v1] σ res := by
  refine c_int (cc := cX11_keep) (maxL := 2) (by decide) rfl (Nat.le_of_ble_eq_true rfl) fun a b hn K hR => ?_
  unfold mX11_keep at h
  have K : KS (GS l 3 82 D cI cZ cC cG cB ad a b (w_A ad 75)) cX11_keep RX11 wsX11_keep (some .int) := K
  have hn : x_n (GS l 3 82 D cI cZ cC cG cB ad a b (w_A ad 75)) = 2 := hn
  refine k_sub [0, 1] rfl ?_
  refine k_iload_n K dX11_keep_0 1 rfl ?_
  obtain ⟨⟨r1, s2⟩, e3, h⟩ := bd_some h
  dsimp only at h
  refine k_callSi K (ctX11_isImage e3) (va_cwS 1 K.ts gX11_keep_X11_isImage rfl rfl rfl hSX11_isImage ⟨Nat.le_of_ble_eq_true rfl, Nat.le_of_ble_eq_true rfl⟩) rfl rfl (Nat.le_of_ble_eq_true rfl) dX11_keep_1 ?_
  refine k_if_ne (tgt := 9) K dX11_keep_4 (by decide) (fun q => ?_) (fun q => ?_)
  · have h := if_f q h
    refine k_aload_n K dX11_keep_9 0 rfl ?_
    refine k_get K 0 11 6 iX11_keep_X11 (Nat.le_of_ble_eq_true rfl) ((mS_0 cI cZ cC cG cB ad) _) rfl (by decide) fX11_keep_37 rfl dX11_keep_10 ?_
    refine k_iload_n K dX11_keep_13 1 rfl ?_
    refine k_case (y := 0) (fun q0 => ?_) (fun q0 => ?_)
    · have h := if_t q0 h
      refine k_ald (q := ad 37) K 7 3 (Nat.le_of_ble_eq_true rfl) (mS_7 cI cZ cC cG cB ad) rfl (by rw [q0]; decide) (by rw [q0]; try rfl) dX11_keep_14 ?_
      refine k_aload_n K dX11_keep_15 0 rfl ?_
      refine k_get K 0 11 5 iX11_keep_X11 (Nat.le_of_ble_eq_true rfl) ((mS_0 cI cZ cC cG cB ad) _) rfl (by decide) fX11_keep_33 rfl dX11_keep_16 ?_
      obtain ⟨⟨r4, s5⟩, e6, h⟩ := bd_some h
      dsimp only at h
      refine k_callVv K 37 3 (Nat.le_of_ble_eq_true rfl) ((mS_37 cI cZ cC cG cB ad) _) rfl (ctX3_copyOf (by decide) (by decide) e6) (cwV 1 K.ts gX11_keep_X3_copyOf rfl rfl rfl hVX3_copyOf ⟨Nat.le_of_ble_eq_true rfl, Nat.le_of_ble_eq_true rfl⟩) rfl rfl (Nat.le_of_ble_eq_true rfl) dX11_keep_19 ?_
      refine k_aload_n K dX11_keep_22 0 rfl ?_
      refine k_get K 0 11 7 iX11_keep_X11 (Nat.le_of_ble_eq_true rfl) ((mS_0 cI cZ cC cG cB ad) _) rfl (by decide) fX11_keep_41 rfl dX11_keep_23 ?_
      refine k_iload_n K dX11_keep_26 1 rfl ?_
      refine k_iconst (x := 1) K dX11_keep_27 (by decide) ?_
      obtain ⟨g7, h⟩ := gd_some h
      have h := lt_some h
      refine k_zst K 2 1 (Nat.le_of_ble_eq_true rfl) (mS_2 cI cZ cC cG cB ad) rfl g7 (by decide +kernel) dX11_keep_28 ?_
      refine k_aload_n K dX11_keep_29 0 rfl ?_
      refine k_aload_n K dX11_keep_30 0 rfl ?_
      refine k_get K 0 11 5 iX11_keep_X11 (Nat.le_of_ble_eq_true rfl) ((mS_0 cI cZ cC cG cB ad) _) rfl (by decide) fX11_keep_33 rfl dX11_keep_31 ?_
      refine k_get K 26 3 4 iX11_keep_X3 (Nat.le_of_ble_eq_true rfl) ((mS_26 cI cZ cC cG cB ad) _) rfl (by decide) fX11_keep_119 rfl dX11_keep_34 ?_
      obtain ⟨⟨r9, s10⟩, e11, h⟩ := bd_some h
      dsimp only at h
      refine k_callVi K 0 11 (Nat.le_of_ble_eq_true rfl) ((mS_0 cI cZ cC cG cB ad) _) rfl (ctX11_sumOf (Nat.le_of_ble_eq_true rfl) (mS_29 cI cZ cC cG cB ad) e11) (cwV 1 K.ts gX11_keep_X11_sumOf rfl rfl rfl hVX11_sumOf ⟨Nat.le_of_ble_eq_true rfl, Nat.le_of_ble_eq_true rfl⟩) rfl rfl (Nat.le_of_ble_eq_true rfl) dX11_keep_37 ?_
      exact ret_i hR h dX11_keep_40 trivial
    · have h := if_f q0 h
      refine k_case (y := 1) (fun q1 => ?_) (fun q1 => ?_)
      · have h := if_t q1 h
        refine k_ald (q := ad 48) K 7 3 (Nat.le_of_ble_eq_true rfl) (mS_7 cI cZ cC cG cB ad) rfl (by rw [q1]; decide) (by rw [q1]; try rfl) dX11_keep_14 ?_
        refine k_aload_n K dX11_keep_15 0 rfl ?_
        refine k_get K 0 11 5 iX11_keep_X11 (Nat.le_of_ble_eq_true rfl) ((mS_0 cI cZ cC cG cB ad) _) rfl (by decide) fX11_keep_33 rfl dX11_keep_16 ?_
        obtain ⟨⟨r12, s13⟩, e14, h⟩ := bd_some h
        dsimp only at h
        refine k_callVv K 48 3 (Nat.le_of_ble_eq_true rfl) ((mS_48 cI cZ cC cG cB ad) _) rfl (ctX3_copyOf (by decide) (by decide) e14) (cwV 1 K.ts gX11_keep_X3_copyOf rfl rfl rfl hVX3_copyOf ⟨Nat.le_of_ble_eq_true rfl, Nat.le_of_ble_eq_true rfl⟩) rfl rfl (Nat.le_of_ble_eq_true rfl) dX11_keep_19 ?_
        refine k_aload_n K dX11_keep_22 0 rfl ?_
        refine k_get K 0 11 7 iX11_keep_X11 (Nat.le_of_ble_eq_true rfl) ((mS_0 cI cZ cC cG cB ad) _) rfl (by decide) fX11_keep_41 rfl dX11_keep_23 ?_
        refine k_iload_n K dX11_keep_26 1 rfl ?_
        refine k_iconst (x := 1) K dX11_keep_27 (by decide) ?_
        obtain ⟨g15, h⟩ := gd_some h
        have h := lt_some h
        refine k_zst K 2 1 (Nat.le_of_ble_eq_true rfl) (mS_2 cI cZ cC cG cB ad) rfl g15 (by decide +kernel) dX11_keep_28 ?_
        refine k_aload_n K dX11_keep_29 0 rfl ?_
        refine k_aload_n K dX11_keep_30 0 rfl ?_
        refine k_get K 0 11 5 iX11_keep_X11 (Nat.le_of_ble_eq_true rfl) ((mS_0 cI cZ cC cG cB ad) _) rfl (by decide) fX11_keep_33 rfl dX11_keep_31 ?_
        refine k_get K 26 3 4 iX11_keep_X3 (Nat.le_of_ble_eq_true rfl) ((mS_26 cI cZ cC cG cB ad) _) rfl (by decide) fX11_keep_119 rfl dX11_keep_34 ?_
        obtain ⟨⟨r17, s18⟩, e19, h⟩ := bd_some h
        dsimp only at h
        refine k_callVi K 0 11 (Nat.le_of_ble_eq_true rfl) ((mS_0 cI cZ cC cG cB ad) _) rfl (ctX11_sumOf (Nat.le_of_ble_eq_true rfl) (mS_29 cI cZ cC cG cB ad) e19) (cwV 1 K.ts gX11_keep_X11_sumOf rfl rfl rfl hVX11_sumOf ⟨Nat.le_of_ble_eq_true rfl, Nat.le_of_ble_eq_true rfl⟩) rfl rfl (Nat.le_of_ble_eq_true rfl) dX11_keep_37 ?_
        exact ret_i hR h dX11_keep_40 trivial
      · have h := if_f q1 h
        cases h
  · have h := if_t q h
    refine k_iconst (x := (-1)) K dX11_keep_7 (by decide) ?_
    exact ret_i hR h dX11_keep_8 trivial
-- X11_back (3, 82)
theorem iX11_back_X11 : ∀ w ∈ wsX110, w ∈ wsX11_back := fun _ h => List.mem_cons_of_mem _ (List.mem_append_left _ (List.mem_append_left _ (List.mem_append_right _ h)))
theorem iX11_back_X3 : ∀ w ∈ wsX30, w ∈ wsX11_back := fun _ h => List.mem_cons_of_mem _ (List.mem_append_left _ (List.mem_append_right _ h))
theorem fX11_back_33 : Cond.fieldLink RX11 33 "SlopeCoins" "ground" "LSlopeCoins$Ground;" ∈ wsX11_back := by decide +kernel
theorem fX11_back_37 : Cond.fieldLink RX11 37 "SlopeCoins" "images" "[LSlopeCoins$Ground;" ∈ wsX11_back := by decide +kernel
theorem fX11_back_41 : Cond.fieldLink RX11 41 "SlopeCoins" "kept" "[Z" ∈ wsX11_back := by decide +kernel
theorem fX11_back_119 : Cond.fieldLink RX11 119 "SlopeCoins$Ground" "lie" "[I" ∈ wsX11_back := by decide +kernel
set_option maxRecDepth 100000 in
set_option maxHeartbeats 4000000 in
theorem ctX11_back {l : Launch} {D : va_G} {cI cZ cC cG cB : ClassId} {ad : Nat → Nat} {v1 : Int32} {σ : St} {res : (Int32 × St)} (h : mX11_back v1 σ = some res) : Ci l yX11_back wsX11_back 3 82 D vwCl (tysS cI cZ cC cG cB) nwS (mkS cI cZ cC cG cB ad) ad 75 [.ref (ad 0), .int v1] σ res := by
  refine c_int (cc := cX11_back) (maxL := 2) (by decide) rfl (Nat.le_of_ble_eq_true rfl) fun a b hn K hR => ?_
  unfold mX11_back at h
  have K : KS (GS l 3 82 D cI cZ cC cG cB ad a b (w_A ad 75)) cX11_back RX11 wsX11_back (some .int) := K
  have hn : x_n (GS l 3 82 D cI cZ cC cG cB ad a b (w_A ad 75)) = 2 := hn
  refine k_sub [0, 1] rfl ?_
  refine k_iload_n K dX11_back_0 1 rfl ?_
  obtain ⟨⟨r1, s2⟩, e3, h⟩ := bd_some h
  dsimp only at h
  refine k_callSi K (ctX11_isImage e3) (va_cwS 1 K.ts gX11_back_X11_isImage rfl rfl rfl hSX11_isImage ⟨Nat.le_of_ble_eq_true rfl, Nat.le_of_ble_eq_true rfl⟩) rfl rfl (Nat.le_of_ble_eq_true rfl) dX11_back_1 ?_
  refine k_if_ne (tgt := 9) K dX11_back_4 (by decide) (fun q => ?_) (fun q => ?_)
  · have h := if_f q h
    refine k_aload_n K dX11_back_9 0 rfl ?_
    refine k_get K 0 11 7 iX11_back_X11 (Nat.le_of_ble_eq_true rfl) ((mS_0 cI cZ cC cG cB ad) _) rfl (by decide) fX11_back_41 rfl dX11_back_10 ?_
    refine k_iload_n K dX11_back_13 1 rfl ?_
    obtain ⟨g4, h⟩ := gd_some h
    refine k_zld K 2 1 (Nat.le_of_ble_eq_true rfl) ((mS_2 cI cZ cC cG cB ad) _) rfl g4 dX11_back_14 ?_
    refine k_if_ne (tgt := 21) K dX11_back_15 (by decide) (fun q => ?_) (fun q => ?_)
    · have h := if_f q h
      refine k_aload_n K dX11_back_21 0 rfl ?_
      refine k_get K 0 11 5 iX11_back_X11 (Nat.le_of_ble_eq_true rfl) ((mS_0 cI cZ cC cG cB ad) _) rfl (by decide) fX11_back_33 rfl dX11_back_22 ?_
      refine k_aload_n K dX11_back_25 0 rfl ?_
      refine k_get K 0 11 6 iX11_back_X11 (Nat.le_of_ble_eq_true rfl) ((mS_0 cI cZ cC cG cB ad) _) rfl (by decide) fX11_back_37 rfl dX11_back_26 ?_
      refine k_iload_n K dX11_back_29 1 rfl ?_
      refine k_case (y := 0) (fun q0 => ?_) (fun q0 => ?_)
      · have h := if_t q0 h
        refine k_ald (q := ad 37) K 7 3 (Nat.le_of_ble_eq_true rfl) (mS_7 cI cZ cC cG cB ad) rfl (by rw [q0]; decide) (by rw [q0]; try rfl) dX11_back_30 ?_
        obtain ⟨⟨r5, s6⟩, e7, h⟩ := bd_some h
        dsimp only at h
        refine k_callVv K 26 3 (Nat.le_of_ble_eq_true rfl) ((mS_26 cI cZ cC cG cB ad) _) rfl (ctX3_copyOf (by decide) (by decide) e7) (cwV 1 K.ts gX11_back_X3_copyOf rfl rfl rfl hVX3_copyOf ⟨Nat.le_of_ble_eq_true rfl, Nat.le_of_ble_eq_true rfl⟩) rfl rfl (Nat.le_of_ble_eq_true rfl) dX11_back_31 ?_
        refine k_aload_n K dX11_back_34 0 rfl ?_
        refine k_aload_n K dX11_back_35 0 rfl ?_
        refine k_get K 0 11 5 iX11_back_X11 (Nat.le_of_ble_eq_true rfl) ((mS_0 cI cZ cC cG cB ad) _) rfl (by decide) fX11_back_33 rfl dX11_back_36 ?_
        refine k_get K 26 3 4 iX11_back_X3 (Nat.le_of_ble_eq_true rfl) ((mS_26 cI cZ cC cG cB ad) _) rfl (by decide) fX11_back_119 rfl dX11_back_39 ?_
        obtain ⟨⟨r8, s9⟩, e10, h⟩ := bd_some h
        dsimp only at h
        refine k_callVi K 0 11 (Nat.le_of_ble_eq_true rfl) ((mS_0 cI cZ cC cG cB ad) _) rfl (ctX11_sumOf (Nat.le_of_ble_eq_true rfl) (mS_29 cI cZ cC cG cB ad) e10) (cwV 1 K.ts gX11_back_X11_sumOf rfl rfl rfl hVX11_sumOf ⟨Nat.le_of_ble_eq_true rfl, Nat.le_of_ble_eq_true rfl⟩) rfl rfl (Nat.le_of_ble_eq_true rfl) dX11_back_42 ?_
        exact ret_i hR h dX11_back_45 trivial
      · have h := if_f q0 h
        refine k_case (y := 1) (fun q1 => ?_) (fun q1 => ?_)
        · have h := if_t q1 h
          refine k_ald (q := ad 48) K 7 3 (Nat.le_of_ble_eq_true rfl) (mS_7 cI cZ cC cG cB ad) rfl (by rw [q1]; decide) (by rw [q1]; try rfl) dX11_back_30 ?_
          obtain ⟨⟨r11, s12⟩, e13, h⟩ := bd_some h
          dsimp only at h
          refine k_callVv K 26 3 (Nat.le_of_ble_eq_true rfl) ((mS_26 cI cZ cC cG cB ad) _) rfl (ctX3_copyOf (by decide) (by decide) e13) (cwV 1 K.ts gX11_back_X3_copyOf rfl rfl rfl hVX3_copyOf ⟨Nat.le_of_ble_eq_true rfl, Nat.le_of_ble_eq_true rfl⟩) rfl rfl (Nat.le_of_ble_eq_true rfl) dX11_back_31 ?_
          refine k_aload_n K dX11_back_34 0 rfl ?_
          refine k_aload_n K dX11_back_35 0 rfl ?_
          refine k_get K 0 11 5 iX11_back_X11 (Nat.le_of_ble_eq_true rfl) ((mS_0 cI cZ cC cG cB ad) _) rfl (by decide) fX11_back_33 rfl dX11_back_36 ?_
          refine k_get K 26 3 4 iX11_back_X3 (Nat.le_of_ble_eq_true rfl) ((mS_26 cI cZ cC cG cB ad) _) rfl (by decide) fX11_back_119 rfl dX11_back_39 ?_
          obtain ⟨⟨r14, s15⟩, e16, h⟩ := bd_some h
          dsimp only at h
          refine k_callVi K 0 11 (Nat.le_of_ble_eq_true rfl) ((mS_0 cI cZ cC cG cB ad) _) rfl (ctX11_sumOf (Nat.le_of_ble_eq_true rfl) (mS_29 cI cZ cC cG cB ad) e16) (cwV 1 K.ts gX11_back_X11_sumOf rfl rfl rfl hVX11_sumOf ⟨Nat.le_of_ble_eq_true rfl, Nat.le_of_ble_eq_true rfl⟩) rfl rfl (Nat.le_of_ble_eq_true rfl) dX11_back_42 ?_
          exact ret_i hR h dX11_back_45 trivial
        · have h := if_f q1 h
          cases h
    · have h := if_t q h
      refine k_bipush (x := (-2)) K dX11_back_18 (by decide) ?_
      exact ret_i hR h dX11_back_20 trivial
  · have h := if_t q h
    refine k_iconst (x := (-1)) K dX11_back_7 (by decide) ?_
    exact ret_i hR h dX11_back_8 trivial
-- X11_count (0, 0)
theorem iX11_count_X11 : ∀ w ∈ wsX110, w ∈ wsX11_count := fun _ h => List.mem_cons_of_mem _ (List.mem_append_left _ (List.mem_append_left _ (List.mem_append_right _ h)))
theorem iX11_count_X2 : ∀ w ∈ wsX20, w ∈ wsX11_count := fun _ h => List.mem_cons_of_mem _ (List.mem_append_left _ (List.mem_append_right _ h))
theorem iX11_count_X3 : ∀ w ∈ wsX30, w ∈ wsX11_count := fun _ h => List.mem_cons_of_mem _ (List.mem_append_right _ h)
theorem fX11_count_16 : Cond.fieldLink RX11 16 "SlopeCoins" "city" "LSlopeCoins$City;" ∈ wsX11_count := by decide +kernel
theorem fX11_count_33 : Cond.fieldLink RX11 33 "SlopeCoins" "ground" "LSlopeCoins$Ground;" ∈ wsX11_count := by decide +kernel
theorem fX11_count_94 : Cond.fieldLink RX11 94 "SlopeCoins" "textLength" "I" ∈ wsX11_count := by decide +kernel
theorem fX11_count_106 : Cond.fieldLink RX11 106 "SlopeCoins" "seen" "I" ∈ wsX11_count := by decide +kernel
theorem fX11_count_193 : Cond.fieldLink RX11 193 "SlopeCoins$Ground" "deeds" "I" ∈ wsX11_count := by decide +kernel
theorem fX11_count_265 : Cond.fieldLink RX11 265 "SlopeCoins$City" "kinds" "I" ∈ wsX11_count := by decide +kernel
theorem fX11_count_291 : Cond.fieldLink RX11 291 "SlopeCoins$City" "wide" "I" ∈ wsX11_count := by decide +kernel
theorem fX11_count_294 : Cond.fieldLink RX11 294 "SlopeCoins$City" "high" "I" ∈ wsX11_count := by decide +kernel
theorem fX11_count_297 : Cond.fieldLink RX11 297 "SlopeCoins$City" "gratings" "I" ∈ wsX11_count := by decide +kernel
set_option maxRecDepth 100000 in
set_option maxHeartbeats 4000000 in
theorem ctX11_count {l : Launch} {D : va_G} {cI cZ cC cG cB : ClassId} {ad : Nat → Nat} {v1 : Int32} {σ : St} {res : (Int32 × St)} (h : mX11_count v1 σ = some res) : Ci l yX11_count wsX11_count 0 0 D vwCl (tysS cI cZ cC cG cB) nwS (mkS cI cZ cC cG cB ad) ad 75 [.ref (ad 0), .int v1] σ res := by
  refine c_int (cc := cX11_count) (maxL := 2) (by decide) rfl (Nat.le_of_ble_eq_true rfl) fun a b hn K hR => ?_
  unfold mX11_count at h
  have K : KS (GS l 0 0 D cI cZ cC cG cB ad a b (w_A ad 75)) cX11_count RX11 wsX11_count (some .int) := K
  have hn : x_n (GS l 0 0 D cI cZ cC cG cB ad a b (w_A ad 75)) = 2 := hn
  refine k_sub [0, 1] rfl ?_
  refine k_iload_n K dX11_count_0 1 rfl ?_
  refine k_case (y := 0) (fun q0 => ?_) (fun q0 => ?_)
  · have h := if_t q0 h
    refine k_tableIn (off := 43) (tgt := 44) K dX11_count_1 (by rw [q0]; decide) (by rw [q0]; decide) (by rw [q0]; rfl) (by decide) ?_
    refine k_aload_n K dX11_count_44 0 rfl ?_
    refine k_get K 0 11 2 iX11_count_X11 (Nat.le_of_ble_eq_true rfl) ((mS_0 cI cZ cC cG cB ad) _) rfl (by decide) fX11_count_16 rfl dX11_count_45 ?_
    refine k_get K 10 2 0 iX11_count_X2 (Nat.le_of_ble_eq_true rfl) ((mS_10 cI cZ cC cG cB ad) _) rfl (by decide) fX11_count_291 rfl dX11_count_48 ?_
    exact ret_i hR h dX11_count_51 trivial
  · have h := if_f q0 h
    refine k_case (y := 1) (fun q1 => ?_) (fun q1 => ?_)
    · have h := if_t q1 h
      refine k_tableIn (off := 51) (tgt := 52) K dX11_count_1 (by rw [q1]; decide) (by rw [q1]; decide) (by rw [q1]; rfl) (by decide) ?_
      refine k_aload_n K dX11_count_52 0 rfl ?_
      refine k_get K 0 11 2 iX11_count_X11 (Nat.le_of_ble_eq_true rfl) ((mS_0 cI cZ cC cG cB ad) _) rfl (by decide) fX11_count_16 rfl dX11_count_53 ?_
      refine k_get K 10 2 1 iX11_count_X2 (Nat.le_of_ble_eq_true rfl) ((mS_10 cI cZ cC cG cB ad) _) rfl (by decide) fX11_count_294 rfl dX11_count_56 ?_
      exact ret_i hR h dX11_count_59 trivial
    · have h := if_f q1 h
      refine k_case (y := 2) (fun q2 => ?_) (fun q2 => ?_)
      · have h := if_t q2 h
        refine k_tableIn (off := 59) (tgt := 60) K dX11_count_1 (by rw [q2]; decide) (by rw [q2]; decide) (by rw [q2]; rfl) (by decide) ?_
        refine k_aload_n K dX11_count_60 0 rfl ?_
        refine k_get K 0 11 2 iX11_count_X11 (Nat.le_of_ble_eq_true rfl) ((mS_0 cI cZ cC cG cB ad) _) rfl (by decide) fX11_count_16 rfl dX11_count_61 ?_
        refine k_get K 10 2 3 iX11_count_X2 (Nat.le_of_ble_eq_true rfl) ((mS_10 cI cZ cC cG cB ad) _) rfl (by decide) fX11_count_297 rfl dX11_count_64 ?_
        exact ret_i hR h dX11_count_67 trivial
      · have h := if_f q2 h
        refine k_case (y := 3) (fun q3 => ?_) (fun q3 => ?_)
        · have h := if_t q3 h
          refine k_tableIn (off := 67) (tgt := 68) K dX11_count_1 (by rw [q3]; decide) (by rw [q3]; decide) (by rw [q3]; rfl) (by decide) ?_
          refine k_aload_n K dX11_count_68 0 rfl ?_
          refine k_get K 0 11 2 iX11_count_X11 (Nat.le_of_ble_eq_true rfl) ((mS_0 cI cZ cC cG cB ad) _) rfl (by decide) fX11_count_16 rfl dX11_count_69 ?_
          refine k_get K 10 2 4 iX11_count_X2 (Nat.le_of_ble_eq_true rfl) ((mS_10 cI cZ cC cG cB ad) _) rfl (by decide) fX11_count_265 rfl dX11_count_72 ?_
          exact ret_i hR h dX11_count_75 trivial
        · have h := if_f q3 h
          refine k_case (y := 4) (fun q4 => ?_) (fun q4 => ?_)
          · have h := if_t q4 h
            refine k_tableIn (off := 75) (tgt := 76) K dX11_count_1 (by rw [q4]; decide) (by rw [q4]; decide) (by rw [q4]; rfl) (by decide) ?_
            refine k_aload_n K dX11_count_76 0 rfl ?_
            refine k_get K 0 11 15 iX11_count_X11 (Nat.le_of_ble_eq_true rfl) ((mS_0 cI cZ cC cG cB ad) _) rfl (by decide) fX11_count_106 rfl dX11_count_77 ?_
            exact ret_i hR h dX11_count_80 trivial
          · have h := if_f q4 h
            refine k_case (y := 5) (fun q5 => ?_) (fun q5 => ?_)
            · have h := if_t q5 h
              refine k_tableIn (off := 80) (tgt := 81) K dX11_count_1 (by rw [q5]; decide) (by rw [q5]; decide) (by rw [q5]; rfl) (by decide) ?_
              refine k_aload_n K dX11_count_81 0 rfl ?_
              refine k_get K 0 11 5 iX11_count_X11 (Nat.le_of_ble_eq_true rfl) ((mS_0 cI cZ cC cG cB ad) _) rfl (by decide) fX11_count_33 rfl dX11_count_82 ?_
              refine k_get K 26 3 1 iX11_count_X3 (Nat.le_of_ble_eq_true rfl) ((mS_26 cI cZ cC cG cB ad) _) rfl (by decide) fX11_count_193 rfl dX11_count_85 ?_
              exact ret_i hR h dX11_count_88 trivial
            · have h := if_f q5 h
              refine k_case (y := 6) (fun q6 => ?_) (fun q6 => ?_)
              · have h := if_t q6 h
                refine k_tableIn (off := 88) (tgt := 89) K dX11_count_1 (by rw [q6]; decide) (by rw [q6]; decide) (by rw [q6]; rfl) (by decide) ?_
                refine k_aload_n K dX11_count_89 0 rfl ?_
                refine k_get K 0 11 1 iX11_count_X11 (Nat.le_of_ble_eq_true rfl) ((mS_0 cI cZ cC cG cB ad) _) rfl (by decide) fX11_count_94 rfl dX11_count_90 ?_
                exact ret_i hR h dX11_count_93 trivial
              · have h := if_f q6 h
                refine k_tableOut (tgt := 94) K dX11_count_1 (sw_out7 q0 q1 q2 q3 q4 q5 q6) (by decide) ?_
                refine k_iconst (x := (-1)) K dX11_count_94 (by decide) ?_
                exact ret_i hR h dX11_count_95 trivial

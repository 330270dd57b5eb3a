/-! walks, by program -/
-- X11_doorBits (4, 107)
theorem iX11_doorBits_X11 : ∀ w ∈ wsX110, w ∈ wsX11_doorBits := fun _ h => List.mem_cons_of_mem _ (List.mem_append_left _ (List.mem_append_left _ (List.mem_append_left _ (List.mem_append_right _ h))))
theorem iX11_doorBits_X2 : ∀ w ∈ wsX20, w ∈ wsX11_doorBits := fun _ h => List.mem_cons_of_mem _ (List.mem_append_left _ (List.mem_append_left _ (List.mem_append_right _ h)))
theorem fX11_doorBits_16 : Cond.fieldLink RX11 16 "SlopeCoins" "city" "LSlopeCoins$City;" ∈ wsX11_doorBits := by decide +kernel
theorem fX11_doorBits_232 : Cond.fieldLink RX11 232 "SlopeCoins$City" "cells" "I" ∈ wsX11_doorBits := by decide +kernel
set_option maxRecDepth 100000 in
set_option maxHeartbeats 4000000 in
theorem wX11_doorBits_35 {l : Launch} {D : va_G} {cI cZ cC cG cB : ClassId} {ad : Nat → Nat} {a : Program × Env × State × MethodId} {b : Array Value × List Frame × Method × Code × (State → Prop) × Nat} {A : Nat → Prop} {rc : Int32 → Int32 → Int32 → Int32 → St → Option (Int32 × St)} (K : KS (GS l 4 107 D cI cZ cC cG cB ad a b A) cX11_doorBits RX11 wsX11_doorBits (some .int)) (hn : x_n (GS l 4 107 D cI cZ cC cG cB ad a b A) = 5) {res : (Int32 × St)} (hR : HRi (GS l 4 107 D cI cZ cC cG cB ad a b A) cX11_doorBits tb res) (hrc : ∀ (v1 : Int32) (v2 : Int32) (v3 : Int32) (v4 : Int32) (σ : St), rc v1 v2 v3 v4 σ = some res → Wk (GS l 4 107 D cI cZ cC cG cB ad a b A) 5 [(0, .ref (ad 0)), (1, .int v1), (2, .int v2), (3, .int v3), (4, .int v4)] [] σ) : ∀ (v1 : Int32), ∀ (v2 : Int32), ∀ (v3 : Int32), ∀ (v4 : Int32), ∀ (σ : St), mX11_doorBits_35 rc v1 v2 v3 v4 σ = some res → Wk (GS l 4 107 D cI cZ cC cG cB ad a b A) 35 [(0, .ref (ad 0)), (1, .int v1), (2, .int v2), (3, .int v3), (4, .int v4)] [] σ := by
  intro v1 v2 v3 v4 σ h
  unfold mX11_doorBits_35 at h
  have h := lt_some h
  refine k_iinc (lv' := [(4, _), (0, _), (1, _), (2, _), (3, _)]) K dX11_doorBits_35 4 rfl (v := _ + 1) (by rfl) (by rw [hn]; decide) rfl ?_
  refine k_goto (tgt := 5) K dX11_doorBits_38 (by decide) ?_
  exact k_sub [1, 2, 3, 4, 0] rfl (hrc _ _ _ _ _ h)
set_option maxRecDepth 100000 in
set_option maxHeartbeats 4000000 in
theorem wX11_doorBits_5 {l : Launch} {D : va_G} {cI cZ cC cG cB : ClassId} {ad : Nat → Nat} {a : Program × Env × State × MethodId} {b : Array Value × List Frame × Method × Code × (State → Prop) × Nat} {A : Nat → Prop} (K : KS (GS l 4 107 D cI cZ cC cG cB ad a b A) cX11_doorBits RX11 wsX11_doorBits (some .int)) (hn : x_n (GS l 4 107 D cI cZ cC cG cB ad a b A) = 5) {res : (Int32 × St)} (hR : HRi (GS l 4 107 D cI cZ cC cG cB ad a b A) cX11_doorBits tb res) : ∀ (n : Nat) (v1 : Int32) (v2 : Int32) (v3 : Int32) (v4 : Int32) (σ : St), mX11_doorBits_5 n v1 v2 v3 v4 σ = some res → Wk (GS l 4 107 D cI cZ cC cG cB ad a b A) 5 [(0, .ref (ad 0)), (1, .int v1), (2, .int v2), (3, .int v3), (4, .int v4)] [] σ := by
  intro n
  induction n with
  | zero => intro v1 v2 v3 v4 σ h; cases h
  | succ n ih =>
    intro v1 v2 v3 v4 σ h
    unfold mX11_doorBits_5 at h
    refine k_iload K dX11_doorBits_5 4 rfl ?_
    refine k_aload_n K dX11_doorBits_7 0 rfl ?_
    refine k_get K 0 11 2 iX11_doorBits_X11 (Nat.le_of_ble_eq_true rfl) ((mS_0 cI cZ cC cG cB ad) _) rfl (by decide) fX11_doorBits_16 rfl dX11_doorBits_8 ?_
    refine k_get K 10 2 2 iX11_doorBits_X2 (Nat.le_of_ble_eq_true rfl) ((mS_10 cI cZ cC cG cB ad) _) rfl (by decide) fX11_doorBits_232 rfl dX11_doorBits_11 ?_
    refine k_icmp_ge (tgt := 41) K dX11_doorBits_14 (by decide) (fun q => ?_) (fun q => ?_)
    · have h := if_f q h
      refine k_iload_n K dX11_doorBits_41 3 rfl ?_
      exact ret_i hR h dX11_doorBits_42 trivial
    · have h := if_t q h
      refine k_aload_n K dX11_doorBits_17 0 rfl ?_
      refine k_iload_n K dX11_doorBits_18 1 rfl ?_
      refine k_iload K dX11_doorBits_19 4 rfl ?_
      refine k_iload_n K dX11_doorBits_21 2 rfl ?_
      obtain ⟨⟨r1, s2⟩, e3, h⟩ := bd_some h
      dsimp only at h
      refine k_callVi K 0 11 (Nat.le_of_ble_eq_true rfl) ((mS_0 cI cZ cC cG cB ad) _) rfl (ctX11_endsAt e3) (cwV 3 K.ts gX11_doorBits_X11_endsAt rfl rfl rfl hVX11_endsAt ⟨Nat.le_of_ble_eq_true rfl, Nat.le_of_ble_eq_true rfl⟩) rfl rfl (Nat.le_of_ble_eq_true rfl) dX11_doorBits_22 ?_
      refine k_if_eq (tgt := 35) K dX11_doorBits_25 (by decide) (fun q => ?_) (fun q => ?_)
      · have h := if_t q h
        exact k_sub [0, 1, 2, 3, 4] rfl (wX11_doorBits_35 K hn hR ih _ _ _ _ _ h)
      · have h := if_f q h
        refine k_iload_n K dX11_doorBits_28 3 rfl ?_
        refine k_iconst (x := 1) K dX11_doorBits_29 (by decide) ?_
        refine k_iload K dX11_doorBits_30 4 rfl ?_
        refine k_ishl K dX11_doorBits_32 ?_
        refine k_ior K dX11_doorBits_33 ?_
        have h := lt_some h
        refine k_istore_n (lv' := [(3, _), (0, _), (1, _), (2, _), (4, _)]) K dX11_doorBits_34 (by rw [hn]; decide) rfl ?_
        exact k_sub [1, 2, 3, 0, 4] rfl (wX11_doorBits_35 K hn hR ih _ _ _ _ _ h)
set_option maxRecDepth 100000 in
set_option maxHeartbeats 4000000 in
theorem ctX11_doorBits {l : Launch} {D : va_G} {cI cZ cC cG cB : ClassId} {ad : Nat → Nat} {v1 : Int32} {v2 : Int32} {σ : St} {res : (Int32 × St)} (h : mX11_doorBits v1 v2 σ = some res) : Ci l yX11_doorBits wsX11_doorBits 4 107 D vwCl (tysS cI cZ cC cG cB) nwS (mkS cI cZ cC cG cB ad) ad 75 [.ref (ad 0), .int v1, .int v2] σ res := by
  refine c_int (cc := cX11_doorBits) (maxL := 5) (by decide) rfl (Nat.le_of_ble_eq_true rfl) fun a b hn K hR => ?_
  unfold mX11_doorBits at h
  have K : KS (GS l 4 107 D cI cZ cC cG cB ad a b (w_A ad 75)) cX11_doorBits RX11 wsX11_doorBits (some .int) := K
  have hn : x_n (GS l 4 107 D cI cZ cC cG cB ad a b (w_A ad 75)) = 5 := hn
  refine k_sub [0, 1, 2] rfl ?_
  refine k_iconst (x := 0) K dX11_doorBits_0 (by decide) ?_
  refine k_istore_n (lv' := [(3, _), (0, _), (1, _), (2, _)]) K dX11_doorBits_1 (by rw [hn]; decide) rfl ?_
  refine k_iconst (x := 0) K dX11_doorBits_2 (by decide) ?_
  refine k_istore (lv' := [(4, _), (3, _), (0, _), (1, _), (2, _)]) K dX11_doorBits_3 (by rw [hn]; decide) rfl ?_
  exact k_sub [2, 3, 4, 1, 0] rfl (wX11_doorBits_5 K hn hR FU _ _ _ _ _ h)
-- X11_doors (5, 131)
theorem iX11_doors_X11 : ∀ w ∈ wsX110, w ∈ wsX11_doors := fun _ h => List.mem_cons_of_mem _ (List.mem_append_left _ (List.mem_append_left _ (List.mem_append_left _ (List.mem_append_right _ h))))
theorem fX11_doors_16 : Cond.fieldLink RX11 16 "SlopeCoins" "city" "LSlopeCoins$City;" ∈ wsX11_doors := by decide +kernel
set_option maxRecDepth 100000 in
set_option maxHeartbeats 4000000 in
theorem ctX11_doors {l : Launch} {D : va_G} {cI cZ cC cG cB : ClassId} {ad : Nat → Nat} {v1 : Int32} {v2 : Int32} {v3 : Int32} {σ : St} {res : (Int32 × St)} (h : mX11_doors v1 v2 v3 σ = some res) : Ci l yX11_doors wsX11_doors 5 131 D vwCl (tysS cI cZ cC cG cB) nwS (mkS cI cZ cC cG cB ad) ad 75 [.ref (ad 0), .int v1, .int v2, .int v3] σ res := by
  refine c_int (cc := cX11_doors) (maxL := 5) (by decide) rfl (Nat.le_of_ble_eq_true rfl) fun a b hn K hR => ?_
  unfold mX11_doors at h
  have K : KS (GS l 5 131 D cI cZ cC cG cB ad a b (w_A ad 75)) cX11_doors RX11 wsX11_doors (some .int) := K
  have hn : x_n (GS l 5 131 D cI cZ cC cG cB ad a b (w_A ad 75)) = 5 := hn
  refine k_sub [0, 1, 2, 3] rfl ?_
  refine k_aload_n K dX11_doors_0 0 rfl ?_
  refine k_get K 0 11 2 iX11_doors_X11 (Nat.le_of_ble_eq_true rfl) ((mS_0 cI cZ cC cG cB ad) _) rfl (by decide) fX11_doors_16 rfl dX11_doors_1 ?_
  refine k_iload_n K dX11_doors_4 2 rfl ?_
  refine k_iload_n K dX11_doors_5 3 rfl ?_
  obtain ⟨⟨r1, s2⟩, e3, h⟩ := bd_some h
  dsimp only at h
  refine k_callVi K 10 2 (Nat.le_of_ble_eq_true rfl) ((mS_10 cI cZ cC cG cB ad) _) rfl (ctX2_cellAt (by decide) e3) (cwV 2 K.ts gX11_doors_X2_cellAt rfl rfl rfl hVX2_cellAt ⟨Nat.le_of_ble_eq_true rfl, Nat.le_of_ble_eq_true rfl⟩) rfl rfl (Nat.le_of_ble_eq_true rfl) dX11_doors_6 ?_
  refine k_istore (lv' := [(4, _), (0, _), (1, _), (2, _), (3, _)]) K dX11_doors_9 (by rw [hn]; decide) rfl ?_
  refine k_aload_n K dX11_doors_11 1 rfl ?_
  refine k_iload_n K dX11_doors_12 2 rfl ?_
  obtain ⟨⟨r4, s5⟩, e6, h⟩ := bd_some h
  dsimp only at h
  refine k_callVi K 0 11 (Nat.le_of_ble_eq_true rfl) ((mS_0 cI cZ cC cG cB ad) _) rfl (ctX11_isKind e6) (cwV 1 K.ts gX11_doors_X11_isKind rfl rfl rfl hVX11_isKind ⟨Nat.le_of_ble_eq_true rfl, Nat.le_of_ble_eq_true rfl⟩) rfl rfl (Nat.le_of_ble_eq_true rfl) dX11_doors_13 ?_
  refine k_if_eq (tgt := 25) K dX11_doors_16 (by decide) (fun q => ?_) (fun q => ?_)
  · have h := if_t q h
    refine k_iconst (x := (-1)) K dX11_doors_25 (by decide) ?_
    exact ret_i hR h dX11_doors_26 trivial
  · have h := if_f q h
    refine k_iload K dX11_doors_19 0 rfl ?_
    refine k_iconst (x := (-1)) K dX11_doors_21 (by decide) ?_
    refine k_icmp_ne (tgt := 27) K dX11_doors_22 (by decide) (fun q => ?_) (fun q => ?_)
    · have h := if_f q h
      refine k_aload_n K dX11_doors_27 1 rfl ?_
      refine k_iload_n K dX11_doors_28 2 rfl ?_
      refine k_iload K dX11_doors_29 0 rfl ?_
      obtain ⟨⟨r7, s8⟩, e9, h⟩ := bd_some h
      dsimp only at h
      refine k_callVi K 0 11 (Nat.le_of_ble_eq_true rfl) ((mS_0 cI cZ cC cG cB ad) _) rfl (ctX11_doorBits e9) (cwV 2 K.ts gX11_doors_X11_doorBits rfl rfl rfl hVX11_doorBits ⟨Nat.le_of_ble_eq_true rfl, Nat.le_of_ble_eq_true rfl⟩) rfl rfl (Nat.le_of_ble_eq_true rfl) dX11_doors_31 ?_
      exact ret_i hR h dX11_doors_34 trivial
    · have h := if_t q h
      refine k_iconst (x := (-1)) K dX11_doors_25 (by decide) ?_
      exact ret_i hR h dX11_doors_26 trivial
-- X11_sideCode (1, 21)
theorem iX11_sideCode_X11 : ∀ w ∈ wsX110, w ∈ wsX11_sideCode := fun _ h => List.mem_cons_of_mem _ (List.mem_append_left _ (List.mem_append_right _ h))
theorem fX11_sideCode_16 : Cond.fieldLink RX11 16 "SlopeCoins" "city" "LSlopeCoins$City;" ∈ wsX11_sideCode := by decide +kernel
set_option maxRecDepth 100000 in
set_option maxHeartbeats 4000000 in
theorem ctX11_sideCode {l : Launch} {D : va_G} {cI cZ cC cG cB : ClassId} {ad : Nat → Nat} {v1 : Int32} {σ : St} {res : (Int32 × St)} (h : mX11_sideCode v1 σ = some res) : Ci l yX11_sideCode wsX11_sideCode 1 21 D vwCl (tysS cI cZ cC cG cB) nwS (mkS cI cZ cC cG cB ad) ad 75 [.ref (ad 0), .int v1] σ res := by
  refine c_int (cc := cX11_sideCode) (maxL := 2) (by decide) rfl (Nat.le_of_ble_eq_true rfl) fun a b hn K hR => ?_
  unfold mX11_sideCode at h
  have K : KS (GS l 1 21 D cI cZ cC cG cB ad a b (w_A ad 75)) cX11_sideCode RX11 wsX11_sideCode (some .int) := K
  have hn : x_n (GS l 1 21 D cI cZ cC cG cB ad a b (w_A ad 75)) = 2 := hn
  refine k_sub [0, 1] rfl ?_
  refine k_bipush (x := 10) K dX11_sideCode_0 (by decide) ?_
  refine k_aload_n K dX11_sideCode_2 0 rfl ?_
  refine k_get K 0 11 2 iX11_sideCode_X11 (Nat.le_of_ble_eq_true rfl) ((mS_0 cI cZ cC cG cB ad) _) rfl (by decide) fX11_sideCode_16 rfl dX11_sideCode_3 ?_
  refine k_iload_n K dX11_sideCode_6 1 rfl ?_
  refine k_iconst (x := 2) K dX11_sideCode_7 (by decide) ?_
  refine k_idiv K dX11_sideCode_8 (by decide) ?_
  obtain ⟨⟨r1, s2⟩, e3, h⟩ := bd_some h
  dsimp only at h
  refine k_callVi K 10 2 (Nat.le_of_ble_eq_true rfl) ((mS_10 cI cZ cC cG cB ad) _) rfl (ctX2_pairOf (by decide) e3) (cwV 1 K.ts gX11_sideCode_X2_pairOf rfl rfl rfl hVX2_pairOf ⟨Nat.le_of_ble_eq_true rfl, Nat.le_of_ble_eq_true rfl⟩) rfl rfl (Nat.le_of_ble_eq_true rfl) dX11_sideCode_9 ?_
  refine k_imul K dX11_sideCode_12 ?_
  refine k_iload_n K dX11_sideCode_13 1 rfl ?_
  refine k_iconst (x := 2) K dX11_sideCode_14 (by decide) ?_
  refine k_irem K dX11_sideCode_15 (by decide) ?_
  refine k_iadd K dX11_sideCode_16 ?_
  exact ret_i hR h dX11_sideCode_17 trivial
-- X11_planks (5, 139)
theorem iX11_planks_X11 : ∀ w ∈ wsX110, w ∈ wsX11_planks := fun _ h => List.mem_cons_of_mem _ (List.mem_append_left _ (List.mem_append_left _ (List.mem_append_left _ (List.mem_append_left _ (List.mem_append_right _ h)))))
theorem iX11_planks_X6 : ∀ w ∈ wsX60, w ∈ wsX11_planks := fun _ h => List.mem_cons_of_mem _ (List.mem_append_left _ (List.mem_append_left _ (List.mem_append_left _ (List.mem_append_right _ h))))
theorem fX11_planks_16 : Cond.fieldLink RX11 16 "SlopeCoins" "city" "LSlopeCoins$City;" ∈ wsX11_planks := by decide +kernel
theorem fX11_planks_33 : Cond.fieldLink RX11 33 "SlopeCoins" "ground" "LSlopeCoins$Ground;" ∈ wsX11_planks := by decide +kernel
theorem fX11_planks_55 : Cond.fieldLink RX11 55 "SlopeCoins" "search" "LSlopeCoins$PlankSearch;" ∈ wsX11_planks := by decide +kernel
theorem fX11_planks_220 : Cond.fieldLink RX11 220 "SlopeCoins$PlankSearch" "fewest" "I" ∈ wsX11_planks := by decide +kernel
theorem fX11_planks_223 : Cond.fieldLink RX11 223 "SlopeCoins$PlankSearch" "first" "I" ∈ wsX11_planks := by decide +kernel
theorem fX11_planks_226 : Cond.fieldLink RX11 226 "SlopeCoins$PlankSearch" "second" "I" ∈ wsX11_planks := by decide +kernel
set_option maxRecDepth 100000 in
set_option maxHeartbeats 4000000 in
theorem ctX11_planks {l : Launch} {D : va_G} {cI cZ cC cG cB : ClassId} {ad : Nat → Nat} {v1 : Int32} {v2 : Int32} {v3 : Int32} {v4 : Int32} {σ : St} {res : (Int32 × St)} (h : mX11_planks v1 v2 v3 v4 σ = some res) : Ci l yX11_planks wsX11_planks 5 139 D vwCl (tysS cI cZ cC cG cB) nwS (mkS cI cZ cC cG cB ad) ad 75 [.ref (ad 0), .int v1, .int v2, .int v3, .int v4] σ res := by
  refine c_int (cc := cX11_planks) (maxL := 7) (by decide) rfl (Nat.le_of_ble_eq_true rfl) fun a b hn K hR => ?_
  unfold mX11_planks at h
  have K : KS (GS l 5 139 D cI cZ cC cG cB ad a b (w_A ad 75)) cX11_planks RX11 wsX11_planks (some .int) := K
  have hn : x_n (GS l 5 139 D cI cZ cC cG cB ad a b (w_A ad 75)) = 7 := hn
  refine k_sub [0, 1, 2, 3, 4] rfl ?_
  refine k_aload_n K dX11_planks_0 0 rfl ?_
  refine k_get K 0 11 2 iX11_planks_X11 (Nat.le_of_ble_eq_true rfl) ((mS_0 cI cZ cC cG cB ad) _) rfl (by decide) fX11_planks_16 rfl dX11_planks_1 ?_
  refine k_iload_n K dX11_planks_4 2 rfl ?_
  obtain ⟨⟨r1, s2⟩, e3, h⟩ := bd_some h
  dsimp only at h
  refine k_callVi K 10 2 (Nat.le_of_ble_eq_true rfl) ((mS_10 cI cZ cC cG cB ad) _) rfl (ctX2_cellOfPair (by decide) e3) (cwV 1 K.ts gX11_planks_X2_cellOfPair rfl rfl rfl hVX2_cellOfPair ⟨Nat.le_of_ble_eq_true rfl, Nat.le_of_ble_eq_true rfl⟩) rfl rfl (Nat.le_of_ble_eq_true rfl) dX11_planks_5 ?_
  refine k_istore (lv' := [(5, _), (0, _), (1, _), (2, _), (3, _), (4, _)]) K dX11_planks_8 (by rw [hn]; decide) rfl ?_
  refine k_aload_n K dX11_planks_10 1 rfl ?_
  refine k_get K 0 11 2 iX11_planks_X11 (Nat.le_of_ble_eq_true rfl) ((mS_0 cI cZ cC cG cB ad) _) rfl (by decide) fX11_planks_16 rfl dX11_planks_11 ?_
  refine k_iload_n K dX11_planks_14 4 rfl ?_
  obtain ⟨⟨r4, s5⟩, e6, h⟩ := bd_some h
  dsimp only at h
  refine k_callVi K 10 2 (Nat.le_of_ble_eq_true rfl) ((mS_10 cI cZ cC cG cB ad) _) rfl (ctX2_cellOfPair (by decide) e6) (cwV 1 K.ts gX11_planks_X2_cellOfPair rfl rfl rfl hVX2_cellOfPair ⟨Nat.le_of_ble_eq_true rfl, Nat.le_of_ble_eq_true rfl⟩) rfl rfl (Nat.le_of_ble_eq_true rfl) dX11_planks_15 ?_
  refine k_istore (lv' := [(6, _), (5, _), (0, _), (1, _), (2, _), (3, _), (4, _)]) K dX11_planks_18 (by rw [hn]; decide) rfl ?_
  refine k_aload_n K dX11_planks_20 2 rfl ?_
  refine k_iload_n K dX11_planks_21 3 rfl ?_
  obtain ⟨⟨r7, s8⟩, e9, h⟩ := bd_some h
  dsimp only at h
  refine k_callVi K 0 11 (Nat.le_of_ble_eq_true rfl) ((mS_0 cI cZ cC cG cB ad) _) rfl (ctX11_isKind e9) (cwV 1 K.ts gX11_planks_X11_isKind rfl rfl rfl hVX11_isKind ⟨Nat.le_of_ble_eq_true rfl, Nat.le_of_ble_eq_true rfl⟩) rfl rfl (Nat.le_of_ble_eq_true rfl) dX11_planks_22 ?_
  refine k_if_eq (tgt := 51) K dX11_planks_25 (by decide) (fun q => ?_) (fun q => ?_)
  · have h := if_t q h
    refine k_iconst (x := (-1)) K dX11_planks_51 (by decide) ?_
    exact ret_i hR h dX11_planks_52 trivial
  · have h := if_f q h
    refine k_iload K dX11_planks_28 1 rfl ?_
    refine k_iconst (x := (-1)) K dX11_planks_30 (by decide) ?_
    refine k_icmp_eq (tgt := 51) K dX11_planks_31 (by decide) (fun q => ?_) (fun q => ?_)
    · have h := if_t q h
      refine k_iconst (x := (-1)) K dX11_planks_51 (by decide) ?_
      exact ret_i hR h dX11_planks_52 trivial
    · have h := if_f q h
      refine k_iload K dX11_planks_34 0 rfl ?_
      refine k_iconst (x := (-1)) K dX11_planks_36 (by decide) ?_
      refine k_icmp_eq (tgt := 51) K dX11_planks_37 (by decide) (fun q => ?_) (fun q => ?_)
      · have h := if_t q h
        refine k_iconst (x := (-1)) K dX11_planks_51 (by decide) ?_
        exact ret_i hR h dX11_planks_52 trivial
      · have h := if_f q h
        refine k_iload K dX11_planks_40 6 rfl ?_
        refine k_if_lt (tgt := 51) K dX11_planks_42 (by decide) (fun q => ?_) (fun q => ?_)
        · have h := if_t q h
          refine k_iconst (x := (-1)) K dX11_planks_51 (by decide) ?_
          exact ret_i hR h dX11_planks_52 trivial
        · have h := if_f q h
          refine k_iload K dX11_planks_45 6 rfl ?_
          refine k_iconst (x := 2) K dX11_planks_47 (by decide) ?_
          refine k_icmp_le (tgt := 53) K dX11_planks_48 (by decide) (fun q => ?_) (fun q => ?_)
          · have h := if_f q h
            refine k_aload_n K dX11_planks_53 2 rfl ?_
            refine k_get K 0 11 9 iX11_planks_X11 (Nat.le_of_ble_eq_true rfl) ((mS_0 cI cZ cC cG cB ad) _) rfl (by decide) fX11_planks_55 rfl dX11_planks_54 ?_
            refine k_aload_n K dX11_planks_57 2 rfl ?_
            refine k_get K 0 11 2 iX11_planks_X11 (Nat.le_of_ble_eq_true rfl) ((mS_0 cI cZ cC cG cB ad) _) rfl (by decide) fX11_planks_16 rfl dX11_planks_58 ?_
            refine k_aload_n K dX11_planks_61 2 rfl ?_
            refine k_get K 0 11 5 iX11_planks_X11 (Nat.le_of_ble_eq_true rfl) ((mS_0 cI cZ cC cG cB ad) _) rfl (by decide) fX11_planks_33 rfl dX11_planks_62 ?_
            refine k_iload_n K dX11_planks_65 3 rfl ?_
            refine k_iload K dX11_planks_66 1 rfl ?_
            refine k_iload K dX11_planks_68 0 rfl ?_
            obtain ⟨⟨r10, s11⟩, e12, h⟩ := bd_some h
            dsimp only at h
            refine k_callVv K 61 6 (Nat.le_of_ble_eq_true rfl) ((mS_61 cI cZ cC cG cB ad) _) rfl (ctX6_seek e12) (cwV 5 K.ts gX11_planks_X6_seek rfl rfl rfl hVX6_seek ⟨Nat.le_of_ble_eq_true rfl, Nat.le_of_ble_eq_true rfl⟩) rfl rfl (Nat.le_of_ble_eq_true rfl) dX11_planks_70 ?_
            refine k_aload_n K dX11_planks_73 2 rfl ?_
            refine k_get K 0 11 9 iX11_planks_X11 (Nat.le_of_ble_eq_true rfl) ((mS_0 cI cZ cC cG cB ad) _) rfl (by decide) fX11_planks_55 rfl dX11_planks_74 ?_
            refine k_get K 61 6 0 iX11_planks_X6 (Nat.le_of_ble_eq_true rfl) ((mS_61 cI cZ cC cG cB ad) _) rfl (by decide) fX11_planks_220 rfl dX11_planks_77 ?_
            refine k_bipush (x := (-9)) K dX11_planks_80 (by decide) ?_
            refine k_icmp_eq (tgt := 90) K dX11_planks_82 (by decide) (fun q => ?_) (fun q => ?_)
            · have h := if_t q h
              refine k_aload_n K dX11_planks_90 2 rfl ?_
              refine k_get K 0 11 9 iX11_planks_X11 (Nat.le_of_ble_eq_true rfl) ((mS_0 cI cZ cC cG cB ad) _) rfl (by decide) fX11_planks_55 rfl dX11_planks_91 ?_
              refine k_get K 61 6 0 iX11_planks_X6 (Nat.le_of_ble_eq_true rfl) ((mS_61 cI cZ cC cG cB ad) _) rfl (by decide) fX11_planks_220 rfl dX11_planks_94 ?_
              exact ret_i hR h dX11_planks_97 trivial
            · have h := if_f q h
              refine k_iload K dX11_planks_85 6 rfl ?_
              refine k_if_ne (tgt := 98) K dX11_planks_87 (by decide) (fun q => ?_) (fun q => ?_)
              · have h := if_f q h
                refine k_aload_n K dX11_planks_98 2 rfl ?_
                refine k_get K 0 11 9 iX11_planks_X11 (Nat.le_of_ble_eq_true rfl) ((mS_0 cI cZ cC cG cB ad) _) rfl (by decide) fX11_planks_55 rfl dX11_planks_99 ?_
                refine k_get K 61 6 0 iX11_planks_X6 (Nat.le_of_ble_eq_true rfl) ((mS_61 cI cZ cC cG cB ad) _) rfl (by decide) fX11_planks_220 rfl dX11_planks_102 ?_
                refine k_iload K dX11_planks_105 6 rfl ?_
                refine k_icmp_ge (tgt := 113) K dX11_planks_107 (by decide) (fun q => ?_) (fun q => ?_)
                · have h := if_f q h
                  refine k_aload_n K dX11_planks_113 2 rfl ?_
                  refine k_iload K dX11_planks_114 6 rfl ?_
                  refine k_iconst (x := 1) K dX11_planks_116 (by decide) ?_
                  refine k_icmp_ne (tgt := 130) K dX11_planks_117 (by decide) (fun q => ?_) (fun q => ?_)
                  · have h := if_f q h
                    refine k_aload_n K dX11_planks_130 2 rfl ?_
                    refine k_get K 0 11 9 iX11_planks_X11 (Nat.le_of_ble_eq_true rfl) ((mS_0 cI cZ cC cG cB ad) _) rfl (by decide) fX11_planks_55 rfl dX11_planks_131 ?_
                    refine k_get K 61 6 2 iX11_planks_X6 (Nat.le_of_ble_eq_true rfl) ((mS_61 cI cZ cC cG cB ad) _) rfl (by decide) fX11_planks_226 rfl dX11_planks_134 ?_
                    obtain ⟨⟨r13, s14⟩, e15, h⟩ := bd_some h
                    dsimp only at h
                    refine k_callVi K 0 11 (Nat.le_of_ble_eq_true rfl) ((mS_0 cI cZ cC cG cB ad) _) rfl (ctX11_sideCode e15) (cwV 1 K.ts gX11_planks_X11_sideCode rfl rfl rfl hVX11_sideCode ⟨Nat.le_of_ble_eq_true rfl, Nat.le_of_ble_eq_true rfl⟩) rfl rfl (Nat.le_of_ble_eq_true rfl) dX11_planks_137 ?_
                    exact ret_i hR h dX11_planks_140 trivial
                  · have h := if_t q h
                    refine k_aload_n K dX11_planks_120 2 rfl ?_
                    refine k_get K 0 11 9 iX11_planks_X11 (Nat.le_of_ble_eq_true rfl) ((mS_0 cI cZ cC cG cB ad) _) rfl (by decide) fX11_planks_55 rfl dX11_planks_121 ?_
                    refine k_get K 61 6 1 iX11_planks_X6 (Nat.le_of_ble_eq_true rfl) ((mS_61 cI cZ cC cG cB ad) _) rfl (by decide) fX11_planks_223 rfl dX11_planks_124 ?_
                    refine k_goto (tgt := 137) K dX11_planks_127 (by decide) ?_
                    obtain ⟨⟨r16, s17⟩, e18, h⟩ := bd_some h
                    dsimp only at h
                    refine k_callVi K 0 11 (Nat.le_of_ble_eq_true rfl) ((mS_0 cI cZ cC cG cB ad) _) rfl (ctX11_sideCode e18) (cwV 1 K.ts gX11_planks_X11_sideCode rfl rfl rfl hVX11_sideCode ⟨Nat.le_of_ble_eq_true rfl, Nat.le_of_ble_eq_true rfl⟩) rfl rfl (Nat.le_of_ble_eq_true rfl) dX11_planks_137 ?_
                    exact ret_i hR h dX11_planks_140 trivial
                · have h := if_t q h
                  refine k_bipush (x := (-5)) K dX11_planks_110 (by decide) ?_
                  exact ret_i hR h dX11_planks_112 trivial
              · have h := if_t q h
                refine k_aload_n K dX11_planks_90 2 rfl ?_
                refine k_get K 0 11 9 iX11_planks_X11 (Nat.le_of_ble_eq_true rfl) ((mS_0 cI cZ cC cG cB ad) _) rfl (by decide) fX11_planks_55 rfl dX11_planks_91 ?_
                refine k_get K 61 6 0 iX11_planks_X6 (Nat.le_of_ble_eq_true rfl) ((mS_61 cI cZ cC cG cB ad) _) rfl (by decide) fX11_planks_220 rfl dX11_planks_94 ?_
                exact ret_i hR h dX11_planks_97 trivial
          · have h := if_t q h
            refine k_iconst (x := (-1)) K dX11_planks_51 (by decide) ?_
            exact ret_i hR h dX11_planks_52 trivial
-- J6_bitCount_0f7a4 (0, 0)
set_option maxRecDepth 100000 in
set_option maxHeartbeats 4000000 in
theorem ctJ6_bitCount {l : Launch} {D : va_G} {cI cZ cC cG cB : ClassId} {ad : Nat → Nat} {v0 : Int32} {σ : St} {res : (Int32 × St)} (h : mJ6_bitCount v0 σ = some res) : Ci l yJ6_bitCount_0f7a4 wsJ6_bitCount_0f7a4 0 0 D vwCl (tysS cI cZ cC cG cB) nwS (mkS cI cZ cC cG cB ad) ad 75 [.int v0] σ res := by
  refine c_int (cc := cJ6_bitCount_0f7a4) (maxL := 1) (by decide) rfl (Nat.le_of_ble_eq_true rfl) fun a b hn K hR => ?_
  unfold mJ6_bitCount at h
  have K : KS (GS l 0 0 D cI cZ cC cG cB ad a b (w_A ad 75)) cJ6_bitCount_0f7a4 RJ6 wsJ6_bitCount_0f7a4 (some .int) := K
  have hn : x_n (GS l 0 0 D cI cZ cC cG cB ad a b (w_A ad 75)) = 1 := hn
  refine k_sub [0] rfl ?_
  refine k_iload_n K dJ6_bitCount_0f7a4_0 0 rfl ?_
  refine k_iload_n K dJ6_bitCount_0f7a4_1 0 rfl ?_
  refine k_iconst (x := 1) K dJ6_bitCount_0f7a4_2 (by decide) ?_
  refine k_iushr K dJ6_bitCount_0f7a4_3 ?_
  refine k_ldcw (x := 1431655765) K (by decide +kernel) dJ6_bitCount_0f7a4_4 ?_
  refine k_iand K dJ6_bitCount_0f7a4_7 ?_
  refine k_isub K dJ6_bitCount_0f7a4_8 ?_
  have h := lt_some h
  refine k_istore_n (lv' := [(0, _)]) K dJ6_bitCount_0f7a4_9 (by rw [hn]; decide) rfl ?_
  refine k_iload_n K dJ6_bitCount_0f7a4_10 0 rfl ?_
  refine k_ldcw (x := 858993459) K (by decide +kernel) dJ6_bitCount_0f7a4_11 ?_
  refine k_iand K dJ6_bitCount_0f7a4_14 ?_
  refine k_iload_n K dJ6_bitCount_0f7a4_15 0 rfl ?_
  refine k_iconst (x := 2) K dJ6_bitCount_0f7a4_16 (by decide) ?_
  refine k_iushr K dJ6_bitCount_0f7a4_17 ?_
  refine k_ldcw (x := 858993459) K (by decide +kernel) dJ6_bitCount_0f7a4_18 ?_
  refine k_iand K dJ6_bitCount_0f7a4_21 ?_
  refine k_iadd K dJ6_bitCount_0f7a4_22 ?_
  have h := lt_some h
  refine k_istore_n (lv' := [(0, _)]) K dJ6_bitCount_0f7a4_23 (by rw [hn]; decide) rfl ?_
  refine k_iload_n K dJ6_bitCount_0f7a4_24 0 rfl ?_
  refine k_iload_n K dJ6_bitCount_0f7a4_25 0 rfl ?_
  refine k_iconst (x := 4) K dJ6_bitCount_0f7a4_26 (by decide) ?_
  refine k_iushr K dJ6_bitCount_0f7a4_27 ?_
  refine k_iadd K dJ6_bitCount_0f7a4_28 ?_
  refine k_ldcw (x := 252645135) K (by decide +kernel) dJ6_bitCount_0f7a4_29 ?_
  refine k_iand K dJ6_bitCount_0f7a4_32 ?_
  have h := lt_some h
  refine k_istore_n (lv' := [(0, _)]) K dJ6_bitCount_0f7a4_33 (by rw [hn]; decide) rfl ?_
  refine k_iload_n K dJ6_bitCount_0f7a4_34 0 rfl ?_
  refine k_iload_n K dJ6_bitCount_0f7a4_35 0 rfl ?_
  refine k_bipush (x := 8) K dJ6_bitCount_0f7a4_36 (by decide) ?_
  refine k_iushr K dJ6_bitCount_0f7a4_38 ?_
  refine k_iadd K dJ6_bitCount_0f7a4_39 ?_
  have h := lt_some h
  refine k_istore_n (lv' := [(0, _)]) K dJ6_bitCount_0f7a4_40 (by rw [hn]; decide) rfl ?_
  refine k_iload_n K dJ6_bitCount_0f7a4_41 0 rfl ?_
  refine k_iload_n K dJ6_bitCount_0f7a4_42 0 rfl ?_
  refine k_bipush (x := 16) K dJ6_bitCount_0f7a4_43 (by decide) ?_
  refine k_iushr K dJ6_bitCount_0f7a4_45 ?_
  refine k_iadd K dJ6_bitCount_0f7a4_46 ?_
  have h := lt_some h
  refine k_istore_n (lv' := [(0, _)]) K dJ6_bitCount_0f7a4_47 (by rw [hn]; decide) rfl ?_
  refine k_iload_n K dJ6_bitCount_0f7a4_48 0 rfl ?_
  refine k_bipush (x := 63) K dJ6_bitCount_0f7a4_49 (by decide) ?_
  refine k_iand K dJ6_bitCount_0f7a4_51 ?_
  exact ret_i hR h dJ6_bitCount_0f7a4_52 trivial
-- X11_doorsWithout (5, 131)
theorem iX11_doorsWithout_X11 : ∀ w ∈ wsX110, w ∈ wsX11_doorsWithout := fun _ h => List.mem_cons_of_mem _ (List.mem_append_left _ (List.mem_append_left _ (List.mem_append_left _ (List.mem_append_right _ h))))
theorem iX11_doorsWithout_X3 : ∀ w ∈ wsX30, w ∈ wsX11_doorsWithout := fun _ h => List.mem_cons_of_mem _ (List.mem_append_left _ (List.mem_append_left _ (List.mem_append_right _ h)))
theorem fX11_doorsWithout_33 : Cond.fieldLink RX11 33 "SlopeCoins" "ground" "LSlopeCoins$Ground;" ∈ wsX11_doorsWithout := by decide +kernel
theorem fX11_doorsWithout_113 : Cond.fieldLink RX11 113 "SlopeCoins$Ground" "height" "[I" ∈ wsX11_doorsWithout := by decide +kernel
set_option maxRecDepth 100000 in
set_option maxHeartbeats 4000000 in
theorem ctX11_doorsWithout {l : Launch} {D : va_G} {cI cZ cC cG cB : ClassId} {ad : Nat → Nat} {v1 : Int32} {v2 : Int32} {v3 : Int32} {σ : St} {res : (Int32 × St)} (h : mX11_doorsWithout v1 v2 v3 σ = some res) : Ci l yX11_doorsWithout wsX11_doorsWithout 5 131 D vwCl (tysS cI cZ cC cG cB) nwS (mkS cI cZ cC cG cB ad) ad 75 [.ref (ad 0), .int v1, .int v2, .int v3] σ res := by
  refine c_int (cc := cX11_doorsWithout) (maxL := 5) (by decide) rfl (Nat.le_of_ble_eq_true rfl) fun a b hn K hR => ?_
  unfold mX11_doorsWithout at h
  have K : KS (GS l 5 131 D cI cZ cC cG cB ad a b (w_A ad 75)) cX11_doorsWithout RX11 wsX11_doorsWithout (some .int) := K
  have hn : x_n (GS l 5 131 D cI cZ cC cG cB ad a b (w_A ad 75)) = 5 := hn
  refine k_sub [0, 1, 2, 3] rfl ?_
  refine k_aload_n K dX11_doorsWithout_0 0 rfl ?_
  refine k_get K 0 11 5 iX11_doorsWithout_X11 (Nat.le_of_ble_eq_true rfl) ((mS_0 cI cZ cC cG cB ad) _) rfl (by decide) fX11_doorsWithout_33 rfl dX11_doorsWithout_1 ?_
  refine k_get K 26 3 2 iX11_doorsWithout_X3 (Nat.le_of_ble_eq_true rfl) ((mS_26 cI cZ cC cG cB ad) _) rfl (by decide) fX11_doorsWithout_113 rfl dX11_doorsWithout_4 ?_
  refine k_iload_n K dX11_doorsWithout_7 3 rfl ?_
  refine k_dup2 K dX11_doorsWithout_8 rfl rfl ?_
  obtain ⟨g1, h⟩ := gd_some h
  refine k_ild K 27 0 (Nat.le_of_ble_eq_true rfl) ((mS_27 cI cZ cC cG cB ad) _) rfl g1 dX11_doorsWithout_9 ?_
  refine k_iconst (x := 1) K dX11_doorsWithout_10 (by decide) ?_
  refine k_isub K dX11_doorsWithout_11 ?_
  obtain ⟨g2, h⟩ := gd_some h
  have h := lt_some h
  refine k_ist K 27 0 (Nat.le_of_ble_eq_true rfl) (mS_27 cI cZ cC cG cB ad) rfl g2 dX11_doorsWithout_12 ?_
  refine k_aload_n K dX11_doorsWithout_13 0 rfl ?_
  refine k_iload_n K dX11_doorsWithout_14 1 rfl ?_
  refine k_iload_n K dX11_doorsWithout_15 2 rfl ?_
  obtain ⟨⟨r4, s5⟩, e6, h⟩ := bd_some h
  dsimp only at h
  refine k_callVi K 0 11 (Nat.le_of_ble_eq_true rfl) ((mS_0 cI cZ cC cG cB ad) _) rfl (ctX11_doorBits e6) (cwV 2 K.ts gX11_doorsWithout_X11_doorBits rfl rfl rfl hVX11_doorBits ⟨Nat.le_of_ble_eq_true rfl, Nat.le_of_ble_eq_true rfl⟩) rfl rfl (Nat.le_of_ble_eq_true rfl) dX11_doorsWithout_16 ?_
  obtain ⟨⟨r7, s8⟩, e9, h⟩ := bd_some h
  dsimp only at h
  refine k_callSi K (ctJ6_bitCount e9) (va_cwS 1 K.ts gX11_doorsWithout_J6_bitCount_0f7a4 rfl rfl rfl hSJ6_bitCount_0f7a4 ⟨Nat.le_of_ble_eq_true rfl, Nat.le_of_ble_eq_true rfl⟩) rfl rfl (Nat.le_of_ble_eq_true rfl) dX11_doorsWithout_19 ?_
  refine k_istore (lv' := [(4, _), (0, _), (1, _), (2, _), (3, _)]) K dX11_doorsWithout_22 (by rw [hn]; decide) rfl ?_
  refine k_aload_n K dX11_doorsWithout_24 1 rfl ?_
  refine k_get K 0 11 5 iX11_doorsWithout_X11 (Nat.le_of_ble_eq_true rfl) ((mS_0 cI cZ cC cG cB ad) _) rfl (by decide) fX11_doorsWithout_33 rfl dX11_doorsWithout_25 ?_
  refine k_get K 26 3 2 iX11_doorsWithout_X3 (Nat.le_of_ble_eq_true rfl) ((mS_26 cI cZ cC cG cB ad) _) rfl (by decide) fX11_doorsWithout_113 rfl dX11_doorsWithout_28 ?_
  refine k_iload_n K dX11_doorsWithout_31 4 rfl ?_
  refine k_dup2 K dX11_doorsWithout_32 rfl rfl ?_
  obtain ⟨g10, h⟩ := gd_some h
  refine k_ild K 27 0 (Nat.le_of_ble_eq_true rfl) ((mS_27 cI cZ cC cG cB ad) _) rfl g10 dX11_doorsWithout_33 ?_
  refine k_iconst (x := 1) K dX11_doorsWithout_34 (by decide) ?_
  refine k_iadd K dX11_doorsWithout_35 ?_
  obtain ⟨g11, h⟩ := gd_some h
  have h := lt_some h
  refine k_ist K 27 0 (Nat.le_of_ble_eq_true rfl) (mS_27 cI cZ cC cG cB ad) rfl g11 dX11_doorsWithout_36 ?_
  refine k_iload K dX11_doorsWithout_37 0 rfl ?_
  exact ret_i hR h dX11_doorsWithout_39 trivial
-- X11_paved (6, 155)
theorem iX11_paved_X11 : ∀ w ∈ wsX110, w ∈ wsX11_paved := fun _ h => List.mem_cons_of_mem _ (List.mem_append_left _ (List.mem_append_left _ (List.mem_append_left _ (List.mem_append_right _ h))))
theorem iX11_paved_X2 : ∀ w ∈ wsX20, w ∈ wsX11_paved := fun _ h => List.mem_cons_of_mem _ (List.mem_append_left _ (List.mem_append_left _ (List.mem_append_right _ h)))
theorem iX11_paved_X3 : ∀ w ∈ wsX30, w ∈ wsX11_paved := fun _ h => List.mem_cons_of_mem _ (List.mem_append_left _ (List.mem_append_right _ h))
theorem fX11_paved_16 : Cond.fieldLink RX11 16 "SlopeCoins" "city" "LSlopeCoins$City;" ∈ wsX11_paved := by decide +kernel
theorem fX11_paved_33 : Cond.fieldLink RX11 33 "SlopeCoins" "ground" "LSlopeCoins$Ground;" ∈ wsX11_paved := by decide +kernel
theorem fX11_paved_113 : Cond.fieldLink RX11 113 "SlopeCoins$Ground" "height" "[I" ∈ wsX11_paved := by decide +kernel
theorem fX11_paved_232 : Cond.fieldLink RX11 232 "SlopeCoins$City" "cells" "I" ∈ wsX11_paved := by decide +kernel
set_option maxRecDepth 100000 in
set_option maxHeartbeats 4000000 in
theorem wX11_paved_105 {l : Launch} {D : va_G} {cI cZ cC cG cB : ClassId} {ad : Nat → Nat} {a : Program × Env × State × MethodId} {b : Array Value × List Frame × Method × Code × (State → Prop) × Nat} {A : Nat → Prop} (K : KS (GS l 6 155 D cI cZ cC cG cB ad a b A) cX11_paved RX11 wsX11_paved (some .int)) (hn : x_n (GS l 6 155 D cI cZ cC cG cB ad a b A) = 10) {res : (Int32 × St)} (hR : HRi (GS l 6 155 D cI cZ cC cG cB ad a b A) cX11_paved tb res) : ∀ (v4 : Int32), ∀ (v6 : Int32), ∀ (v7 : Int32), ∀ (σ : St), mX11_paved_105 v4 v6 v7 σ = some res → Wk (GS l 6 155 D cI cZ cC cG cB ad a b A) 105 [(0, .ref (ad 0)), (4, .int v4), (6, .int v6), (7, .int v7)] [] σ := by
  intro v4 v6 v7 σ h
  unfold mX11_paved_105 at h
  refine k_iload K dX11_paved_105 2 rfl ?_
  refine k_iconst (x := (-1)) K dX11_paved_107 (by decide) ?_
  refine k_icmp_ne (tgt := 114) K dX11_paved_108 (by decide) (fun q => ?_) (fun q => ?_)
  · have h := if_f q h
    refine k_iload K dX11_paved_114 1 rfl ?_
    refine k_if_ne (tgt := 131) K dX11_paved_116 (by decide) (fun q => ?_) (fun q => ?_)
    · have h := if_f q h
      refine k_iload K dX11_paved_131 3 rfl ?_
      exact ret_i hR h dX11_paved_133 trivial
    · have h := if_t q h
      refine k_aload_n K dX11_paved_119 0 rfl ?_
      refine k_get K 0 11 2 iX11_paved_X11 (Nat.le_of_ble_eq_true rfl) ((mS_0 cI cZ cC cG cB ad) _) rfl (by decide) fX11_paved_16 rfl dX11_paved_120 ?_
      refine k_iload K dX11_paved_123 2 rfl ?_
      obtain ⟨⟨r7, s8⟩, e9, h⟩ := bd_some h
      dsimp only at h
      refine k_callVi K 10 2 (Nat.le_of_ble_eq_true rfl) ((mS_10 cI cZ cC cG cB ad) _) rfl (ctX2_pairOf (by decide) e9) (cwV 1 K.ts gX11_paved_X2_pairOf rfl rfl rfl hVX2_pairOf ⟨Nat.le_of_ble_eq_true rfl, Nat.le_of_ble_eq_true rfl⟩) rfl rfl (Nat.le_of_ble_eq_true rfl) dX11_paved_125 ?_
      refine k_goto (tgt := 133) K dX11_paved_128 (by decide) ?_
      exact ret_i hR h dX11_paved_133 trivial
  · have h := if_t q h
    refine k_bipush (x := (-9)) K dX11_paved_111 (by decide) ?_
    exact ret_i hR h dX11_paved_113 trivial
set_option maxRecDepth 100000 in
set_option maxHeartbeats 4000000 in
theorem wX11_paved_99 {l : Launch} {D : va_G} {cI cZ cC cG cB : ClassId} {ad : Nat → Nat} {a : Program × Env × State × MethodId} {b : Array Value × List Frame × Method × Code × (State → Prop) × Nat} {A : Nat → Prop} {k105 : Int32 → Int32 → Int32 → St → Option (Int32 × St)} {rc : Int32 → Int32 → Int32 → Int32 → Int32 → Int32 → St → Option (Int32 × St)} (K : KS (GS l 6 155 D cI cZ cC cG cB ad a b A) cX11_paved RX11 wsX11_paved (some .int)) (hn : x_n (GS l 6 155 D cI cZ cC cG cB ad a b A) = 10) {res : (Int32 × St)} (hR : HRi (GS l 6 155 D cI cZ cC cG cB ad a b A) cX11_paved tb res) (hk105 : ∀ (v4 : Int32) (v6 : Int32) (v7 : Int32) (σ : St), k105 v4 v6 v7 σ = some res → Wk (GS l 6 155 D cI cZ cC cG cB ad a b A) 105 [(0, .ref (ad 0)), (4, .int v4), (6, .int v6), (7, .int v7)] [] σ) (hrc : ∀ (v1 : Int32) (v4 : Int32) (v5 : Int32) (v6 : Int32) (v7 : Int32) (v8 : Int32) (σ : St), rc v1 v4 v5 v6 v7 v8 σ = some res → Wk (GS l 6 155 D cI cZ cC cG cB ad a b A) 48 [(0, .ref (ad 0)), (1, .int v1), (4, .int v4), (5, .int v5), (6, .int v6), (7, .int v7), (8, .int v8)] [] σ) : ∀ (v1 : Int32), ∀ (v4 : Int32), ∀ (v5 : Int32), ∀ (v6 : Int32), ∀ (v7 : Int32), ∀ (v8 : Int32), ∀ (σ : St), mX11_paved_99 k105 rc v1 v4 v5 v6 v7 v8 σ = some res → Wk (GS l 6 155 D cI cZ cC cG cB ad a b A) 99 [(0, .ref (ad 0)), (1, .int v1), (4, .int v4), (5, .int v5), (6, .int v6), (7, .int v7), (8, .int v8)] [] σ := by
  intro v1 v4 v5 v6 v7 v8 σ h
  unfold mX11_paved_99 at h
  have h := lt_some h
  refine k_iinc (lv' := [(8, _), (0, _), (1, _), (4, _), (5, _), (6, _), (7, _)]) K dX11_paved_99 6 rfl (v := _ + 1) (by rfl) (by rw [hn]; decide) rfl ?_
  refine k_goto (tgt := 48) K dX11_paved_102 (by decide) ?_
  exact k_sub [1, 2, 3, 4, 5, 6, 0] rfl (hrc _ _ _ _ _ _ _ h)
set_option maxRecDepth 100000 in
set_option maxHeartbeats 4000000 in
theorem wX11_paved_48 {l : Launch} {D : va_G} {cI cZ cC cG cB : ClassId} {ad : Nat → Nat} {a : Program × Env × State × MethodId} {b : Array Value × List Frame × Method × Code × (State → Prop) × Nat} {A : Nat → Prop} {k105 : Int32 → Int32 → Int32 → St → Option (Int32 × St)} (K : KS (GS l 6 155 D cI cZ cC cG cB ad a b A) cX11_paved RX11 wsX11_paved (some .int)) (hn : x_n (GS l 6 155 D cI cZ cC cG cB ad a b A) = 10) {res : (Int32 × St)} (hR : HRi (GS l 6 155 D cI cZ cC cG cB ad a b A) cX11_paved tb res) (hk105 : ∀ (v4 : Int32) (v6 : Int32) (v7 : Int32) (σ : St), k105 v4 v6 v7 σ = some res → Wk (GS l 6 155 D cI cZ cC cG cB ad a b A) 105 [(0, .ref (ad 0)), (4, .int v4), (6, .int v6), (7, .int v7)] [] σ) : ∀ (n : Nat) (v1 : Int32) (v4 : Int32) (v5 : Int32) (v6 : Int32) (v7 : Int32) (v8 : Int32) (σ : St), mX11_paved_48 k105 n v1 v4 v5 v6 v7 v8 σ = some res → Wk (GS l 6 155 D cI cZ cC cG cB ad a b A) 48 [(0, .ref (ad 0)), (1, .int v1), (4, .int v4), (5, .int v5), (6, .int v6), (7, .int v7), (8, .int v8)] [] σ := by
  intro n
  induction n with
  | zero => intro v1 v4 v5 v6 v7 v8 σ h; cases h
  | succ n ih =>
    intro v1 v4 v5 v6 v7 v8 σ h
    unfold mX11_paved_48 at h
    refine k_iload K dX11_paved_48 6 rfl ?_
    refine k_aload_n K dX11_paved_50 0 rfl ?_
    refine k_get K 0 11 2 iX11_paved_X11 (Nat.le_of_ble_eq_true rfl) ((mS_0 cI cZ cC cG cB ad) _) rfl (by decide) fX11_paved_16 rfl dX11_paved_51 ?_
    refine k_get K 10 2 2 iX11_paved_X2 (Nat.le_of_ble_eq_true rfl) ((mS_10 cI cZ cC cG cB ad) _) rfl (by decide) fX11_paved_232 rfl dX11_paved_54 ?_
    refine k_icmp_ge (tgt := 105) K dX11_paved_57 (by decide) (fun q => ?_) (fun q => ?_)
    · have h := if_f q h
      exact k_sub [0, 2, 4, 5] rfl (hk105 _ _ _ _ h)
    · have h := if_t q h
      refine k_aload_n K dX11_paved_60 0 rfl ?_
      refine k_get K 0 11 5 iX11_paved_X11 (Nat.le_of_ble_eq_true rfl) ((mS_0 cI cZ cC cG cB ad) _) rfl (by decide) fX11_paved_33 rfl dX11_paved_61 ?_
      refine k_get K 26 3 2 iX11_paved_X3 (Nat.le_of_ble_eq_true rfl) ((mS_26 cI cZ cC cG cB ad) _) rfl (by decide) fX11_paved_113 rfl dX11_paved_64 ?_
      refine k_iload K dX11_paved_67 6 rfl ?_
      obtain ⟨g10, h⟩ := gd_some h
      refine k_ild K 27 0 (Nat.le_of_ble_eq_true rfl) ((mS_27 cI cZ cC cG cB ad) _) rfl g10 dX11_paved_69 ?_
      refine k_if_le (tgt := 99) K dX11_paved_70 (by decide) (fun q => ?_) (fun q => ?_)
      · have h := if_f q h
        exact k_sub [0, 1, 2, 3, 4, 5, 6] rfl (wX11_paved_99 K hn hR hk105 ih _ _ _ _ _ _ _ h)
      · have h := if_t q h
        refine k_aload_n K dX11_paved_73 0 rfl ?_
        refine k_iload_n K dX11_paved_74 1 rfl ?_
        refine k_iload K dX11_paved_75 3 rfl ?_
        refine k_iload K dX11_paved_77 6 rfl ?_
        obtain ⟨⟨r12, s13⟩, e14, h⟩ := bd_some h
        dsimp only at h
        refine k_callVi K 0 11 (Nat.le_of_ble_eq_true rfl) ((mS_0 cI cZ cC cG cB ad) _) rfl (ctX11_doorsWithout e14) (cwV 3 K.ts gX11_paved_X11_doorsWithout rfl rfl rfl hVX11_doorsWithout ⟨Nat.le_of_ble_eq_true rfl, Nat.le_of_ble_eq_true rfl⟩) rfl rfl (Nat.le_of_ble_eq_true rfl) dX11_paved_79 ?_
        refine k_istore (lv' := [(9, _), (0, _), (1, _), (4, _), (5, _), (6, _), (7, _), (8, _)]) K dX11_paved_82 (by rw [hn]; decide) rfl ?_
        refine k_iload K dX11_paved_84 0 rfl ?_
        refine k_iload K dX11_paved_86 6 rfl ?_
        refine k_icmp_le (tgt := 99) K dX11_paved_88 (by decide) (fun q => ?_) (fun q => ?_)
        · have h := if_f q h
          exact k_sub [1, 2, 3, 4, 5, 6, 7] rfl (wX11_paved_99 K hn hR hk105 ih _ _ _ _ _ _ _ h)
        · have h := if_t q h
          refine k_iload K dX11_paved_91 0 rfl ?_
          refine k_istore (lv' := [(7, _), (9, _), (0, _), (1, _), (4, _), (5, _), (6, _), (8, _)]) K dX11_paved_93 (by rw [hn]; decide) rfl ?_
          refine k_iload K dX11_paved_95 7 rfl ?_
          refine k_istore (lv' := [(6, _), (7, _), (9, _), (0, _), (1, _), (4, _), (5, _), (8, _)]) K dX11_paved_97 (by rw [hn]; decide) rfl ?_
          exact k_sub [3, 4, 5, 6, 0, 1, 7] rfl (wX11_paved_99 K hn hR hk105 ih _ _ _ _ _ _ _ h)
set_option maxRecDepth 100000 in
set_option maxHeartbeats 4000000 in
theorem wX11_paved_38 {l : Launch} {D : va_G} {cI cZ cC cG cB : ClassId} {ad : Nat → Nat} {a : Program × Env × State × MethodId} {b : Array Value × List Frame × Method × Code × (State → Prop) × Nat} {A : Nat → Prop} (K : KS (GS l 6 155 D cI cZ cC cG cB ad a b A) cX11_paved RX11 wsX11_paved (some .int)) (hn : x_n (GS l 6 155 D cI cZ cC cG cB ad a b A) = 10) {res : (Int32 × St)} (hR : HRi (GS l 6 155 D cI cZ cC cG cB ad a b A) cX11_paved tb res) : ∀ (v1 : Int32), ∀ (v4 : Int32), ∀ (v5 : Int32), ∀ (σ : St), mX11_paved_38 v1 v4 v5 σ = some res → Wk (GS l 6 155 D cI cZ cC cG cB ad a b A) 38 [(0, .ref (ad 0)), (1, .int v1), (4, .int v4), (5, .int v5)] [] σ := by
  intro v1 v4 v5 σ h
  unfold mX11_paved_38 at h
  refine k_iconst (x := (-1)) K dX11_paved_38 (by decide) ?_
  refine k_istore (lv' := [(6, _), (0, _), (1, _), (4, _), (5, _)]) K dX11_paved_39 (by rw [hn]; decide) rfl ?_
  refine k_bipush (x := (-9)) K dX11_paved_41 (by decide) ?_
  refine k_istore (lv' := [(7, _), (6, _), (0, _), (1, _), (4, _), (5, _)]) K dX11_paved_43 (by rw [hn]; decide) rfl ?_
  refine k_iconst (x := 0) K dX11_paved_45 (by decide) ?_
  refine k_istore (lv' := [(8, _), (7, _), (6, _), (0, _), (1, _), (4, _), (5, _)]) K dX11_paved_46 (by rw [hn]; decide) rfl ?_
  exact k_sub [3, 4, 5, 6, 2, 1, 0] rfl (wX11_paved_48 K hn hR (fun v4 v6 v7 σ h => wX11_paved_105 K hn hR v4 v6 v7 σ h) FU _ _ _ _ _ _ _ h)
set_option maxRecDepth 100000 in
set_option maxHeartbeats 4000000 in
theorem ctX11_paved {l : Launch} {D : va_G} {cI cZ cC cG cB : ClassId} {ad : Nat → Nat} {v1 : Int32} {v2 : Int32} {v3 : Int32} {v4 : Int32} {σ : St} {res : (Int32 × St)} (h : mX11_paved v1 v2 v3 v4 σ = some res) : Ci l yX11_paved wsX11_paved 6 155 D vwCl (tysS cI cZ cC cG cB) nwS (mkS cI cZ cC cG cB ad) ad 75 [.ref (ad 0), .int v1, .int v2, .int v3, .int v4] σ res := by
  refine c_int (cc := cX11_paved) (maxL := 10) (by decide) rfl (Nat.le_of_ble_eq_true rfl) fun a b hn K hR => ?_
  unfold mX11_paved at h
  have K : KS (GS l 6 155 D cI cZ cC cG cB ad a b (w_A ad 75)) cX11_paved RX11 wsX11_paved (some .int) := K
  have hn : x_n (GS l 6 155 D cI cZ cC cG cB ad a b (w_A ad 75)) = 10 := hn
  refine k_sub [0, 1, 2, 3, 4] rfl ?_
  refine k_aload_n K dX11_paved_0 0 rfl ?_
  refine k_get K 0 11 2 iX11_paved_X11 (Nat.le_of_ble_eq_true rfl) ((mS_0 cI cZ cC cG cB ad) _) rfl (by decide) fX11_paved_16 rfl dX11_paved_1 ?_
  refine k_iload_n K dX11_paved_4 2 rfl ?_
  refine k_iload_n K dX11_paved_5 3 rfl ?_
  obtain ⟨⟨r1, s2⟩, e3, h⟩ := bd_some h
  dsimp only at h
  refine k_callVi K 10 2 (Nat.le_of_ble_eq_true rfl) ((mS_10 cI cZ cC cG cB ad) _) rfl (ctX2_cellAt (by decide) e3) (cwV 2 K.ts gX11_paved_X2_cellAt rfl rfl rfl hVX2_cellAt ⟨Nat.le_of_ble_eq_true rfl, Nat.le_of_ble_eq_true rfl⟩) rfl rfl (Nat.le_of_ble_eq_true rfl) dX11_paved_6 ?_
  refine k_istore (lv' := [(5, _), (0, _), (1, _), (2, _), (3, _), (4, _)]) K dX11_paved_9 (by rw [hn]; decide) rfl ?_
  refine k_aload_n K dX11_paved_11 1 rfl ?_
  refine k_iload_n K dX11_paved_12 2 rfl ?_
  obtain ⟨⟨r4, s5⟩, e6, h⟩ := bd_some h
  dsimp only at h
  refine k_callVi K 0 11 (Nat.le_of_ble_eq_true rfl) ((mS_0 cI cZ cC cG cB ad) _) rfl (ctX11_isKind e6) (cwV 1 K.ts gX11_paved_X11_isKind rfl rfl rfl hVX11_isKind ⟨Nat.le_of_ble_eq_true rfl, Nat.le_of_ble_eq_true rfl⟩) rfl rfl (Nat.le_of_ble_eq_true rfl) dX11_paved_13 ?_
  refine k_if_eq (tgt := 36) K dX11_paved_16 (by decide) (fun q => ?_) (fun q => ?_)
  · have h := if_t q h
    refine k_iconst (x := (-1)) K dX11_paved_36 (by decide) ?_
    exact ret_i hR h dX11_paved_37 trivial
  · have h := if_f q h
    refine k_iload K dX11_paved_19 0 rfl ?_
    refine k_iconst (x := (-1)) K dX11_paved_21 (by decide) ?_
    refine k_icmp_eq (tgt := 36) K dX11_paved_22 (by decide) (fun q => ?_) (fun q => ?_)
    · have h := if_t q h
      refine k_iconst (x := (-1)) K dX11_paved_36 (by decide) ?_
      exact ret_i hR h dX11_paved_37 trivial
    · have h := if_f q h
      refine k_iload K dX11_paved_25 5 rfl ?_
      refine k_if_eq (tgt := 38) K dX11_paved_27 (by decide) (fun q => ?_) (fun q => ?_)
      · have h := if_t q h
        exact k_sub [1, 2, 5, 0] rfl (wX11_paved_38 K hn hR _ _ _ _ h)
      · have h := if_f q h
        refine k_iload K dX11_paved_30 5 rfl ?_
        refine k_iconst (x := 1) K dX11_paved_32 (by decide) ?_
        refine k_icmp_eq (tgt := 38) K dX11_paved_33 (by decide) (fun q => ?_) (fun q => ?_)
        · have h := if_t q h
          exact k_sub [1, 2, 5, 0] rfl (wX11_paved_38 K hn hR _ _ _ _ h)
        · have h := if_f q h
          refine k_iconst (x := (-1)) K dX11_paved_36 (by decide) ?_
          exact ret_i hR h dX11_paved_37 trivial
-- X11_rain (2, 60)
theorem iX11_rain_X11 : ∀ w ∈ wsX110, w ∈ wsX11_rain := fun _ h => List.mem_cons_of_mem _ (List.mem_append_left _ (List.mem_append_left _ (List.mem_append_left _ (List.mem_append_right _ h))))
theorem iX11_rain_X2 : ∀ w ∈ wsX20, w ∈ wsX11_rain := fun _ h => List.mem_cons_of_mem _ (List.mem_append_left _ (List.mem_append_left _ (List.mem_append_right _ h)))
theorem iX11_rain_X8 : ∀ w ∈ wsX80, w ∈ wsX11_rain := fun _ h => List.mem_cons_of_mem _ (List.mem_append_left _ (List.mem_append_right _ h))
theorem fX11_rain_16 : Cond.fieldLink RX11 16 "SlopeCoins" "city" "LSlopeCoins$City;" ∈ wsX11_rain := by decide +kernel
theorem fX11_rain_33 : Cond.fieldLink RX11 33 "SlopeCoins" "ground" "LSlopeCoins$Ground;" ∈ wsX11_rain := by decide +kernel
theorem fX11_rain_48 : Cond.fieldLink RX11 48 "SlopeCoins" "roll" "LSlopeCoins$Roll;" ∈ wsX11_rain := by decide +kernel
theorem fX11_rain_65 : Cond.fieldLink RX11 65 "SlopeCoins" "tally" "[I" ∈ wsX11_rain := by decide +kernel
theorem fX11_rain_156 : Cond.fieldLink RX11 156 "SlopeCoins$Roll" "at" "I" ∈ wsX11_rain := by decide +kernel
theorem fX11_rain_232 : Cond.fieldLink RX11 232 "SlopeCoins$City" "cells" "I" ∈ wsX11_rain := by decide +kernel
set_option maxRecDepth 100000 in
set_option maxHeartbeats 4000000 in
theorem wX11_rain_119 {l : Launch} {D : va_G} {cI cZ cC cG cB : ClassId} {ad : Nat → Nat} {a : Program × Env × State × MethodId} {b : Array Value × List Frame × Method × Code × (State → Prop) × Nat} {A : Nat → Prop} (K : KS (GS l 2 60 D cI cZ cC cG cB ad a b A) cX11_rain RX11 wsX11_rain (some .int)) (hn : x_n (GS l 2 60 D cI cZ cC cG cB ad a b A) = 5) {res : (Int32 × St)} (hR : HRi (GS l 2 60 D cI cZ cC cG cB ad a b A) cX11_rain tb res) : ∀ (v1 : Int32), ∀ (v2 : Int32), ∀ (v3 : Int32), ∀ (σ : St), mX11_rain_119 v1 v2 v3 σ = some res → Wk (GS l 2 60 D cI cZ cC cG cB ad a b A) 119 [(0, .ref (ad 0)), (1, .int v1), (2, .int v2), (3, .int v3)] [] σ := by
  intro v1 v2 v3 σ h
  unfold mX11_rain_119 at h
  refine k_iload_n K dX11_rain_119 1 rfl ?_
  refine k_iconst (x := 1) K dX11_rain_120 (by decide) ?_
  refine k_icmp_ne (tgt := 126) K dX11_rain_121 (by decide) (fun q => ?_) (fun q => ?_)
  · have h := if_f q h
    refine k_iload_n K dX11_rain_126 2 rfl ?_
    refine k_iconst (x := (-1)) K dX11_rain_127 (by decide) ?_
    refine k_icmp_ne (tgt := 136) K dX11_rain_128 (by decide) (fun q => ?_) (fun q => ?_)
    · have h := if_f q h
      refine k_aload_n K dX11_rain_136 0 rfl ?_
      refine k_get K 0 11 2 iX11_rain_X11 (Nat.le_of_ble_eq_true rfl) ((mS_0 cI cZ cC cG cB ad) _) rfl (by decide) fX11_rain_16 rfl dX11_rain_137 ?_
      refine k_iload_n K dX11_rain_140 2 rfl ?_
      obtain ⟨⟨r4, s5⟩, e6, h⟩ := bd_some h
      dsimp only at h
      refine k_callVi K 10 2 (Nat.le_of_ble_eq_true rfl) ((mS_10 cI cZ cC cG cB ad) _) rfl (ctX2_pairOf (by decide) e6) (cwV 1 K.ts gX11_rain_X2_pairOf rfl rfl rfl hVX2_pairOf ⟨Nat.le_of_ble_eq_true rfl, Nat.le_of_ble_eq_true rfl⟩) rfl rfl (Nat.le_of_ble_eq_true rfl) dX11_rain_141 ?_
      exact ret_i hR h dX11_rain_144 trivial
    · have h := if_t q h
      refine k_bipush (x := (-9)) K dX11_rain_131 (by decide) ?_
      refine k_goto (tgt := 144) K dX11_rain_133 (by decide) ?_
      exact ret_i hR h dX11_rain_144 trivial
  · have h := if_t q h
    refine k_iload_n K dX11_rain_124 3 rfl ?_
    exact ret_i hR h dX11_rain_125 trivial
set_option maxRecDepth 100000 in
set_option maxHeartbeats 4000000 in
theorem wX11_rain_113 {l : Launch} {D : va_G} {cI cZ cC cG cB : ClassId} {ad : Nat → Nat} {a : Program × Env × State × MethodId} {b : Array Value × List Frame × Method × Code × (State → Prop) × Nat} {A : Nat → Prop} {k119 : Int32 → Int32 → Int32 → St → Option (Int32 × St)} {rc : Int32 → Int32 → Int32 → Int32 → St → Option (Int32 × St)} (K : KS (GS l 2 60 D cI cZ cC cG cB ad a b A) cX11_rain RX11 wsX11_rain (some .int)) (hn : x_n (GS l 2 60 D cI cZ cC cG cB ad a b A) = 5) {res : (Int32 × St)} (hR : HRi (GS l 2 60 D cI cZ cC cG cB ad a b A) cX11_rain tb res) (hk119 : ∀ (v1 : Int32) (v2 : Int32) (v3 : Int32) (σ : St), k119 v1 v2 v3 σ = some res → Wk (GS l 2 60 D cI cZ cC cG cB ad a b A) 119 [(0, .ref (ad 0)), (1, .int v1), (2, .int v2), (3, .int v3)] [] σ) (hrc : ∀ (v1 : Int32) (v2 : Int32) (v3 : Int32) (v4 : Int32) (σ : St), rc v1 v2 v3 v4 σ = some res → Wk (GS l 2 60 D cI cZ cC cG cB ad a b A) 79 [(0, .ref (ad 0)), (1, .int v1), (2, .int v2), (3, .int v3), (4, .int v4)] [] σ) : ∀ (v1 : Int32), ∀ (v2 : Int32), ∀ (v3 : Int32), ∀ (v4 : Int32), ∀ (σ : St), mX11_rain_113 k119 rc v1 v2 v3 v4 σ = some res → Wk (GS l 2 60 D cI cZ cC cG cB ad a b A) 113 [(0, .ref (ad 0)), (1, .int v1), (2, .int v2), (3, .int v3), (4, .int v4)] [] σ := by
  intro v1 v2 v3 v4 σ h
  unfold mX11_rain_113 at h
  have h := lt_some h
  refine k_iinc (lv' := [(4, _), (0, _), (1, _), (2, _), (3, _)]) K dX11_rain_113 4 rfl (v := _ + 1) (by rfl) (by rw [hn]; decide) rfl ?_
  refine k_goto (tgt := 79) K dX11_rain_116 (by decide) ?_
  exact k_sub [1, 2, 3, 4, 0] rfl (hrc _ _ _ _ _ h)
set_option maxRecDepth 100000 in
set_option maxHeartbeats 4000000 in
theorem wX11_rain_79 {l : Launch} {D : va_G} {cI cZ cC cG cB : ClassId} {ad : Nat → Nat} {a : Program × Env × State × MethodId} {b : Array Value × List Frame × Method × Code × (State → Prop) × Nat} {A : Nat → Prop} {k119 : Int32 → Int32 → Int32 → St → Option (Int32 × St)} (K : KS (GS l 2 60 D cI cZ cC cG cB ad a b A) cX11_rain RX11 wsX11_rain (some .int)) (hn : x_n (GS l 2 60 D cI cZ cC cG cB ad a b A) = 5) {res : (Int32 × St)} (hR : HRi (GS l 2 60 D cI cZ cC cG cB ad a b A) cX11_rain tb res) (hk119 : ∀ (v1 : Int32) (v2 : Int32) (v3 : Int32) (σ : St), k119 v1 v2 v3 σ = some res → Wk (GS l 2 60 D cI cZ cC cG cB ad a b A) 119 [(0, .ref (ad 0)), (1, .int v1), (2, .int v2), (3, .int v3)] [] σ) : ∀ (n : Nat) (v1 : Int32) (v2 : Int32) (v3 : Int32) (v4 : Int32) (σ : St), mX11_rain_79 k119 n v1 v2 v3 v4 σ = some res → Wk (GS l 2 60 D cI cZ cC cG cB ad a b A) 79 [(0, .ref (ad 0)), (1, .int v1), (2, .int v2), (3, .int v3), (4, .int v4)] [] σ := by
  intro n
  induction n with
  | zero => intro v1 v2 v3 v4 σ h; cases h
  | succ n ih =>
    intro v1 v2 v3 v4 σ h
    unfold mX11_rain_79 at h
    refine k_iload K dX11_rain_79 4 rfl ?_
    refine k_aload_n K dX11_rain_81 0 rfl ?_
    refine k_get K 0 11 2 iX11_rain_X11 (Nat.le_of_ble_eq_true rfl) ((mS_0 cI cZ cC cG cB ad) _) rfl (by decide) fX11_rain_16 rfl dX11_rain_82 ?_
    refine k_get K 10 2 2 iX11_rain_X2 (Nat.le_of_ble_eq_true rfl) ((mS_10 cI cZ cC cG cB ad) _) rfl (by decide) fX11_rain_232 rfl dX11_rain_85 ?_
    refine k_icmp_ge (tgt := 119) K dX11_rain_88 (by decide) (fun q => ?_) (fun q => ?_)
    · have h := if_f q h
      exact k_sub [0, 1, 2, 3] rfl (hk119 _ _ _ _ h)
    · have h := if_t q h
      refine k_aload_n K dX11_rain_91 0 rfl ?_
      refine k_get K 0 11 11 iX11_rain_X11 (Nat.le_of_ble_eq_true rfl) ((mS_0 cI cZ cC cG cB ad) _) rfl (by decide) fX11_rain_65 rfl dX11_rain_92 ?_
      refine k_iload K dX11_rain_95 4 rfl ?_
      obtain ⟨g7, h⟩ := gd_some h
      refine k_ild K 3 0 (Nat.le_of_ble_eq_true rfl) ((mS_3 cI cZ cC cG cB ad) _) rfl g7 dX11_rain_97 ?_
      refine k_iload_n K dX11_rain_98 3 rfl ?_
      refine k_icmp_le (tgt := 113) K dX11_rain_99 (by decide) (fun q => ?_) (fun q => ?_)
      · have h := if_f q h
        exact k_sub [0, 1, 2, 3, 4] rfl (wX11_rain_113 K hn hR hk119 ih _ _ _ _ _ h)
      · have h := if_t q h
        refine k_aload_n K dX11_rain_102 0 rfl ?_
        refine k_get K 0 11 11 iX11_rain_X11 (Nat.le_of_ble_eq_true rfl) ((mS_0 cI cZ cC cG cB ad) _) rfl (by decide) fX11_rain_65 rfl dX11_rain_103 ?_
        refine k_iload K dX11_rain_106 4 rfl ?_
        obtain ⟨g9, h⟩ := gd_some h
        refine k_ild K 3 0 (Nat.le_of_ble_eq_true rfl) ((mS_3 cI cZ cC cG cB ad) _) rfl g9 dX11_rain_108 ?_
        have h := lt_some h
        refine k_istore_n (lv' := [(3, _), (0, _), (1, _), (2, _), (4, _)]) K dX11_rain_109 (by rw [hn]; decide) rfl ?_
        refine k_iload K dX11_rain_110 4 rfl ?_
        refine k_istore_n (lv' := [(2, _), (3, _), (0, _), (1, _), (4, _)]) K dX11_rain_112 (by rw [hn]; decide) rfl ?_
        exact k_sub [2, 3, 0, 1, 4] rfl (wX11_rain_113 K hn hR hk119 ih _ _ _ _ _ h)
set_option maxRecDepth 100000 in
set_option maxHeartbeats 4000000 in
theorem wX11_rain_72 {l : Launch} {D : va_G} {cI cZ cC cG cB : ClassId} {ad : Nat → Nat} {a : Program × Env × State × MethodId} {b : Array Value × List Frame × Method × Code × (State → Prop) × Nat} {A : Nat → Prop} (K : KS (GS l 2 60 D cI cZ cC cG cB ad a b A) cX11_rain RX11 wsX11_rain (some .int)) (hn : x_n (GS l 2 60 D cI cZ cC cG cB ad a b A) = 5) {res : (Int32 × St)} (hR : HRi (GS l 2 60 D cI cZ cC cG cB ad a b A) cX11_rain tb res) : ∀ (v1 : Int32), ∀ (σ : St), mX11_rain_72 v1 σ = some res → Wk (GS l 2 60 D cI cZ cC cG cB ad a b A) 72 [(0, .ref (ad 0)), (1, .int v1)] [] σ := by
  intro v1 σ h
  unfold mX11_rain_72 at h
  refine k_iconst (x := (-1)) K dX11_rain_72 (by decide) ?_
  refine k_istore_n (lv' := [(2, _), (0, _), (1, _)]) K dX11_rain_73 (by rw [hn]; decide) rfl ?_
  refine k_iconst (x := 0) K dX11_rain_74 (by decide) ?_
  refine k_istore_n (lv' := [(3, _), (2, _), (0, _), (1, _)]) K dX11_rain_75 (by rw [hn]; decide) rfl ?_
  refine k_iconst (x := 0) K dX11_rain_76 (by decide) ?_
  refine k_istore (lv' := [(4, _), (3, _), (2, _), (0, _), (1, _)]) K dX11_rain_77 (by rw [hn]; decide) rfl ?_
  exact k_sub [3, 4, 2, 1, 0] rfl (wX11_rain_79 K hn hR (fun v1 v2 v3 σ h => wX11_rain_119 K hn hR v1 v2 v3 σ h) FU _ _ _ _ _ h)
set_option maxRecDepth 100000 in
set_option maxHeartbeats 4000000 in
theorem wX11_rain_21 {l : Launch} {D : va_G} {cI cZ cC cG cB : ClassId} {ad : Nat → Nat} {a : Program × Env × State × MethodId} {b : Array Value × List Frame × Method × Code × (State → Prop) × Nat} {A : Nat → Prop} {k72 : Int32 → St → Option (Int32 × St)} (K : KS (GS l 2 60 D cI cZ cC cG cB ad a b A) cX11_rain RX11 wsX11_rain (some .int)) (hn : x_n (GS l 2 60 D cI cZ cC cG cB ad a b A) = 5) {res : (Int32 × St)} (hR : HRi (GS l 2 60 D cI cZ cC cG cB ad a b A) cX11_rain tb res) (hk72 : ∀ (v1 : Int32) (σ : St), k72 v1 σ = some res → Wk (GS l 2 60 D cI cZ cC cG cB ad a b A) 72 [(0, .ref (ad 0)), (1, .int v1)] [] σ) : ∀ (n : Nat) (v1 : Int32) (v2 : Int32) (σ : St), mX11_rain_21 k72 n v1 v2 σ = some res → Wk (GS l 2 60 D cI cZ cC cG cB ad a b A) 21 [(0, .ref (ad 0)), (1, .int v1), (2, .int v2)] [] σ := by
  intro n
  induction n with
  | zero => intro v1 v2 σ h; cases h
  | succ n ih =>
    intro v1 v2 σ h
    unfold mX11_rain_21 at h
    refine k_iload_n K dX11_rain_21 2 rfl ?_
    refine k_aload_n K dX11_rain_22 0 rfl ?_
    refine k_get K 0 11 2 iX11_rain_X11 (Nat.le_of_ble_eq_true rfl) ((mS_0 cI cZ cC cG cB ad) _) rfl (by decide) fX11_rain_16 rfl dX11_rain_23 ?_
    refine k_get K 10 2 2 iX11_rain_X2 (Nat.le_of_ble_eq_true rfl) ((mS_10 cI cZ cC cG cB ad) _) rfl (by decide) fX11_rain_232 rfl dX11_rain_26 ?_
    refine k_icmp_ge (tgt := 72) K dX11_rain_29 (by decide) (fun q => ?_) (fun q => ?_)
    · have h := if_f q h
      exact k_sub [0, 1] rfl (hk72 _ _ h)
    · have h := if_t q h
      refine k_aload_n K dX11_rain_32 0 rfl ?_
      refine k_get K 0 11 8 iX11_rain_X11 (Nat.le_of_ble_eq_true rfl) ((mS_0 cI cZ cC cG cB ad) _) rfl (by decide) fX11_rain_48 rfl dX11_rain_33 ?_
      refine k_aload_n K dX11_rain_36 0 rfl ?_
      refine k_get K 0 11 2 iX11_rain_X11 (Nat.le_of_ble_eq_true rfl) ((mS_0 cI cZ cC cG cB ad) _) rfl (by decide) fX11_rain_16 rfl dX11_rain_37 ?_
      refine k_aload_n K dX11_rain_40 0 rfl ?_
      refine k_get K 0 11 5 iX11_rain_X11 (Nat.le_of_ble_eq_true rfl) ((mS_0 cI cZ cC cG cB ad) _) rfl (by decide) fX11_rain_33 rfl dX11_rain_41 ?_
      refine k_iconst (x := 1) K dX11_rain_44 (by decide) ?_
      refine k_iconst (x := 0) K dX11_rain_45 (by decide) ?_
      refine k_iload_n K dX11_rain_46 2 rfl ?_
      obtain ⟨⟨r11, s12⟩, e13, h⟩ := bd_some h
      dsimp only at h
      refine k_callVv K 59 8 (Nat.le_of_ble_eq_true rfl) ((mS_59 cI cZ cC cG cB ad) _) rfl (ctX8_go (by decide) e13) (cwV 5 K.ts gX11_rain_X8_go rfl rfl rfl hVX8_go ⟨Nat.le_of_ble_eq_true rfl, Nat.le_of_ble_eq_true rfl⟩) rfl rfl (Nat.le_of_ble_eq_true rfl) dX11_rain_47 ?_
      refine k_aload_n K dX11_rain_50 0 rfl ?_
      refine k_get K 0 11 11 iX11_rain_X11 (Nat.le_of_ble_eq_true rfl) ((mS_0 cI cZ cC cG cB ad) _) rfl (by decide) fX11_rain_65 rfl dX11_rain_51 ?_
      refine k_aload_n K dX11_rain_54 0 rfl ?_
      refine k_get K 0 11 8 iX11_rain_X11 (Nat.le_of_ble_eq_true rfl) ((mS_0 cI cZ cC cG cB ad) _) rfl (by decide) fX11_rain_48 rfl dX11_rain_55 ?_
      refine k_get K 59 8 0 iX11_rain_X8 (Nat.le_of_ble_eq_true rfl) ((mS_59 cI cZ cC cG cB ad) _) rfl (by decide) fX11_rain_156 rfl dX11_rain_58 ?_
      refine k_dup2 K dX11_rain_61 rfl rfl ?_
      obtain ⟨g14, h⟩ := gd_some h
      refine k_ild K 3 0 (Nat.le_of_ble_eq_true rfl) ((mS_3 cI cZ cC cG cB ad) _) rfl g14 dX11_rain_62 ?_
      refine k_iconst (x := 1) K dX11_rain_63 (by decide) ?_
      refine k_iadd K dX11_rain_64 ?_
      obtain ⟨g15, h⟩ := gd_some h
      have h := lt_some h
      refine k_ist K 3 0 (Nat.le_of_ble_eq_true rfl) (mS_3 cI cZ cC cG cB ad) rfl g15 dX11_rain_65 ?_
      have h := lt_some h
      refine k_iinc (lv' := [(2, _), (0, _), (1, _)]) K dX11_rain_66 2 rfl (v := _ + 1) (by rfl) (by rw [hn]; decide) rfl ?_
      refine k_goto (tgt := 21) K dX11_rain_69 (by decide) ?_
      exact k_sub [1, 2, 0] rfl (ih _ _ _ h)
set_option maxRecDepth 100000 in
set_option maxHeartbeats 4000000 in
theorem wX11_rain_11 {l : Launch} {D : va_G} {cI cZ cC cG cB : ClassId} {ad : Nat → Nat} {a : Program × Env × State × MethodId} {b : Array Value × List Frame × Method × Code × (State → Prop) × Nat} {A : Nat → Prop} (K : KS (GS l 2 60 D cI cZ cC cG cB ad a b A) cX11_rain RX11 wsX11_rain (some .int)) (hn : x_n (GS l 2 60 D cI cZ cC cG cB ad a b A) = 5) {res : (Int32 × St)} (hR : HRi (GS l 2 60 D cI cZ cC cG cB ad a b A) cX11_rain tb res) : ∀ (v1 : Int32), ∀ (σ : St), mX11_rain_11 v1 σ = some res → Wk (GS l 2 60 D cI cZ cC cG cB ad a b A) 11 [(0, .ref (ad 0)), (1, .int v1)] [] σ := by
  intro v1 σ h
  unfold mX11_rain_11 at h
  refine k_aload_n K dX11_rain_11 0 rfl ?_
  refine k_get K 0 11 11 iX11_rain_X11 (Nat.le_of_ble_eq_true rfl) ((mS_0 cI cZ cC cG cB ad) _) rfl (by decide) fX11_rain_65 rfl dX11_rain_12 ?_
  refine k_iconst (x := 0) K dX11_rain_15 (by decide) ?_
  obtain ⟨⟨r1, s2⟩, e3, h⟩ := bd_some h
  dsimp only at h
  refine k_callSv K (ctJ7_fill (Nat.le_of_ble_eq_true rfl) (mS_3 cI cZ cC cG cB ad) e3) (va_cwS 2 K.ts gX11_rain_J7_fill_53178 rfl rfl rfl hSJ7_fill_53178 ⟨Nat.le_of_ble_eq_true rfl, Nat.le_of_ble_eq_true rfl⟩) rfl rfl (Nat.le_of_ble_eq_true rfl) dX11_rain_16 ?_
  refine k_iconst (x := 0) K dX11_rain_19 (by decide) ?_
  refine k_istore_n (lv' := [(2, _), (0, _), (1, _)]) K dX11_rain_20 (by rw [hn]; decide) rfl ?_
  exact k_sub [1, 2, 0] rfl (wX11_rain_21 K hn hR (fun v1 σ h => wX11_rain_72 K hn hR v1 σ h) FU _ _ _ h)
set_option maxRecDepth 100000 in
set_option maxHeartbeats 4000000 in
theorem ctX11_rain {l : Launch} {D : va_G} {cI cZ cC cG cB : ClassId} {ad : Nat → Nat} {v1 : Int32} {σ : St} {res : (Int32 × St)} (h : mX11_rain v1 σ = some res) : Ci l yX11_rain wsX11_rain 2 60 D vwCl (tysS cI cZ cC cG cB) nwS (mkS cI cZ cC cG cB ad) ad 75 [.ref (ad 0), .int v1] σ res := by
  refine c_int (cc := cX11_rain) (maxL := 5) (by decide) rfl (Nat.le_of_ble_eq_true rfl) fun a b hn K hR => ?_
  unfold mX11_rain at h
  have K : KS (GS l 2 60 D cI cZ cC cG cB ad a b (w_A ad 75)) cX11_rain RX11 wsX11_rain (some .int) := K
  have hn : x_n (GS l 2 60 D cI cZ cC cG cB ad a b (w_A ad 75)) = 5 := hn
  refine k_sub [0, 1] rfl ?_
  refine k_iload_n K dX11_rain_0 1 rfl ?_
  refine k_if_eq (tgt := 11) K dX11_rain_1 (by decide) (fun q => ?_) (fun q => ?_)
  · have h := if_t q h
    exact k_sub [0, 1] rfl (wX11_rain_11 K hn hR _ _ h)
  · have h := if_f q h
    refine k_iload_n K dX11_rain_4 1 rfl ?_
    refine k_iconst (x := 1) K dX11_rain_5 (by decide) ?_
    refine k_icmp_eq (tgt := 11) K dX11_rain_6 (by decide) (fun q => ?_) (fun q => ?_)
    · have h := if_t q h
      exact k_sub [0, 1] rfl (wX11_rain_11 K hn hR _ _ h)
    · have h := if_f q h
      refine k_iconst (x := (-1)) K dX11_rain_9 (by decide) ?_
      exact ret_i hR h dX11_rain_10 trivial
-- X11_sharedDivisor (0, 0)
set_option maxRecDepth 100000 in
set_option maxHeartbeats 4000000 in
theorem wX11_sharedDivisor_21 {l : Launch} {D : va_G} {cI cZ cC cG cB : ClassId} {ad : Nat → Nat} {a : Program × Env × State × MethodId} {b : Array Value × List Frame × Method × Code × (State → Prop) × Nat} {A : Nat → Prop} {rc : Int32 → Int32 → Int32 → St → Option (Int32 × St)} (K : KS (GS l 0 0 D cI cZ cC cG cB ad a b A) cX11_sharedDivisor RX11 wsX11_sharedDivisor (some .int)) (hn : x_n (GS l 0 0 D cI cZ cC cG cB ad a b A) = 3) {res : (Int32 × St)} (hR : HRi (GS l 0 0 D cI cZ cC cG cB ad a b A) cX11_sharedDivisor tb res) (hrc : ∀ (v0 : Int32) (v1 : Int32) (v2 : Int32) (σ : St), rc v0 v1 v2 σ = some res → Wk (GS l 0 0 D cI cZ cC cG cB ad a b A) 2 [(0, .int v0), (1, .int v1), (2, .int v2)] [] σ) : ∀ (v0 : Int32), ∀ (v1 : Int32), ∀ (v2 : Int32), ∀ (σ : St), mX11_sharedDivisor_21 rc v0 v1 v2 σ = some res → Wk (GS l 0 0 D cI cZ cC cG cB ad a b A) 21 [(0, .int v0), (1, .int v1), (2, .int v2)] [] σ := by
  intro v0 v1 v2 σ h
  unfold mX11_sharedDivisor_21 at h
  have h := lt_some h
  refine k_iinc (lv' := [(2, _), (0, _), (1, _)]) K dX11_sharedDivisor_21 2 rfl (v := _ + (-1)) (by rfl) (by rw [hn]; decide) rfl ?_
  refine k_goto (tgt := 2) K dX11_sharedDivisor_24 (by decide) ?_
  exact k_sub [1, 2, 0] rfl (hrc _ _ _ _ h)
set_option maxRecDepth 100000 in
set_option maxHeartbeats 4000000 in
theorem wX11_sharedDivisor_2 {l : Launch} {D : va_G} {cI cZ cC cG cB : ClassId} {ad : Nat → Nat} {a : Program × Env × State × MethodId} {b : Array Value × List Frame × Method × Code × (State → Prop) × Nat} {A : Nat → Prop} (K : KS (GS l 0 0 D cI cZ cC cG cB ad a b A) cX11_sharedDivisor RX11 wsX11_sharedDivisor (some .int)) (hn : x_n (GS l 0 0 D cI cZ cC cG cB ad a b A) = 3) {res : (Int32 × St)} (hR : HRi (GS l 0 0 D cI cZ cC cG cB ad a b A) cX11_sharedDivisor tb res) : ∀ (n : Nat) (v0 : Int32) (v1 : Int32) (v2 : Int32) (σ : St), mX11_sharedDivisor_2 n v0 v1 v2 σ = some res → Wk (GS l 0 0 D cI cZ cC cG cB ad a b A) 2 [(0, .int v0), (1, .int v1), (2, .int v2)] [] σ := by
  intro n
  induction n with
  | zero => intro v0 v1 v2 σ h; cases h
  | succ n ih =>
    intro v0 v1 v2 σ h
    unfold mX11_sharedDivisor_2 at h
    refine k_iload_n K dX11_sharedDivisor_2 2 rfl ?_
    refine k_iconst (x := 1) K dX11_sharedDivisor_3 (by decide) ?_
    refine k_icmp_le (tgt := 27) K dX11_sharedDivisor_4 (by decide) (fun q => ?_) (fun q => ?_)
    · have h := if_f q h
      refine k_iconst (x := 1) K dX11_sharedDivisor_27 (by decide) ?_
      exact ret_i hR h dX11_sharedDivisor_28 trivial
    · have h := if_t q h
      refine k_iload_n K dX11_sharedDivisor_7 0 rfl ?_
      refine k_iload_n K dX11_sharedDivisor_8 2 rfl ?_
      obtain ⟨g1, h⟩ := gd_some h
      refine k_irem K dX11_sharedDivisor_9 g1 ?_
      refine k_if_ne (tgt := 21) K dX11_sharedDivisor_10 (by decide) (fun q => ?_) (fun q => ?_)
      · have h := if_f q h
        exact k_sub [0, 1, 2] rfl (wX11_sharedDivisor_21 K hn hR ih _ _ _ _ h)
      · have h := if_t q h
        refine k_iload_n K dX11_sharedDivisor_13 1 rfl ?_
        refine k_iload_n K dX11_sharedDivisor_14 2 rfl ?_
        obtain ⟨g3, h⟩ := gd_some h
        refine k_irem K dX11_sharedDivisor_15 g3 ?_
        refine k_if_ne (tgt := 21) K dX11_sharedDivisor_16 (by decide) (fun q => ?_) (fun q => ?_)
        · have h := if_f q h
          exact k_sub [0, 1, 2] rfl (wX11_sharedDivisor_21 K hn hR ih _ _ _ _ h)
        · have h := if_t q h
          refine k_iload_n K dX11_sharedDivisor_19 2 rfl ?_
          exact ret_i hR h dX11_sharedDivisor_20 trivial
set_option maxRecDepth 100000 in
set_option maxHeartbeats 4000000 in
theorem ctX11_sharedDivisor {l : Launch} {D : va_G} {cI cZ cC cG cB : ClassId} {ad : Nat → Nat} {v0 : Int32} {v1 : Int32} {σ : St} {res : (Int32 × St)} (h : mX11_sharedDivisor v0 v1 σ = some res) : Ci l yX11_sharedDivisor wsX11_sharedDivisor 0 0 D vwCl (tysS cI cZ cC cG cB) nwS (mkS cI cZ cC cG cB ad) ad 75 [.int v0, .int v1] σ res := by
  refine c_int (cc := cX11_sharedDivisor) (maxL := 3) (by decide) rfl (Nat.le_of_ble_eq_true rfl) fun a b hn K hR => ?_
  unfold mX11_sharedDivisor at h
  have K : KS (GS l 0 0 D cI cZ cC cG cB ad a b (w_A ad 75)) cX11_sharedDivisor RX11 wsX11_sharedDivisor (some .int) := K
  have hn : x_n (GS l 0 0 D cI cZ cC cG cB ad a b (w_A ad 75)) = 3 := hn
  refine k_sub [0, 1] rfl ?_
  refine k_iconst (x := 5) K dX11_sharedDivisor_0 (by decide) ?_
  refine k_istore_n (lv' := [(2, _), (0, _), (1, _)]) K dX11_sharedDivisor_1 (by rw [hn]; decide) rfl ?_
  exact k_sub [1, 2, 0] rfl (wX11_sharedDivisor_2 K hn hR FU _ _ _ _ h)
-- X11_feet (4, 107)
theorem iX11_feet_X11 : ∀ w ∈ wsX110, w ∈ wsX11_feet := fun _ h => List.mem_cons_of_mem _ (List.mem_append_left _ (List.mem_append_left _ (List.mem_append_left _ (List.mem_append_right _ h))))
theorem fX11_feet_16 : Cond.fieldLink RX11 16 "SlopeCoins" "city" "LSlopeCoins$City;" ∈ wsX11_feet := by decide +kernel
set_option maxRecDepth 100000 in
set_option maxHeartbeats 4000000 in
theorem wX11_feet_134 {l : Launch} {D : va_G} {cI cZ cC cG cB : ClassId} {ad : Nat → Nat} {a : Program × Env × State × MethodId} {b : Array Value × List Frame × Method × Code × (State → Prop) × Nat} {A : Nat → Prop} (K : KS (GS l 4 107 D cI cZ cC cG cB ad a b A) cX11_feet RX11 wsX11_feet (some .int)) (hn : x_n (GS l 4 107 D cI cZ cC cG cB ad a b A) = 11) {res : (Int32 × St)} (hR : HRi (GS l 4 107 D cI cZ cC cG cB ad a b A) cX11_feet tb res) : ∀ (v4 : Int32), ∀ (v7 : Int32), ∀ (v8 : Int32), ∀ (σ : St), mX11_feet_134 v4 v7 v8 σ = some res → Wk (GS l 4 107 D cI cZ cC cG cB ad a b A) 134 [(4, .int v4), (7, .int v7), (8, .int v8)] [] σ := by
  intro v4 v7 v8 σ h
  unfold mX11_feet_134 at h
  refine k_iload K dX11_feet_134 1 rfl ?_
  refine k_iload K dX11_feet_136 2 rfl ?_
  obtain ⟨⟨r13, s14⟩, e15, h⟩ := bd_some h
  dsimp only at h
  refine k_callSi K (ctX11_sharedDivisor e15) (va_cwS 2 K.ts gX11_feet_X11_sharedDivisor rfl rfl rfl hSX11_sharedDivisor ⟨Nat.le_of_ble_eq_true rfl, Nat.le_of_ble_eq_true rfl⟩) rfl rfl (Nat.le_of_ble_eq_true rfl) dX11_feet_138 ?_
  refine k_istore (lv' := [(9, _), (4, _), (7, _), (8, _)]) K dX11_feet_141 (by rw [hn]; decide) rfl ?_
  refine k_iload K dX11_feet_143 1 rfl ?_
  refine k_if_ne (tgt := 153) K dX11_feet_145 (by decide) (fun q => ?_) (fun q => ?_)
  · have h := if_f q h
    refine k_iload K dX11_feet_153 3 rfl ?_
    refine k_iload K dX11_feet_155 0 rfl ?_
    obtain ⟨g16, h⟩ := gd_some h
    refine k_idiv K dX11_feet_157 g16 ?_
    exact ret_i hR h dX11_feet_158 trivial
  · have h := if_t q h
    refine k_iload K dX11_feet_148 2 rfl ?_
    refine k_goto (tgt := 155) K dX11_feet_150 (by decide) ?_
    refine k_iload K dX11_feet_155 0 rfl ?_
    obtain ⟨g17, h⟩ := gd_some h
    refine k_idiv K dX11_feet_157 g17 ?_
    exact ret_i hR h dX11_feet_158 trivial
set_option maxRecDepth 100000 in
set_option maxHeartbeats 4000000 in
theorem wX11_feet_128 {l : Launch} {D : va_G} {cI cZ cC cG cB : ClassId} {ad : Nat → Nat} {a : Program × Env × State × MethodId} {b : Array Value × List Frame × Method × Code × (State → Prop) × Nat} {A : Nat → Prop} {k134 : Int32 → Int32 → Int32 → St → Option (Int32 × St)} {rc : Int32 → Int32 → Int32 → Int32 → Int32 → Int32 → Int32 → St → Option (Int32 × St)} (K : KS (GS l 4 107 D cI cZ cC cG cB ad a b A) cX11_feet RX11 wsX11_feet (some .int)) (hn : x_n (GS l 4 107 D cI cZ cC cG cB ad a b A) = 11) {res : (Int32 × St)} (hR : HRi (GS l 4 107 D cI cZ cC cG cB ad a b A) cX11_feet tb res) (hk134 : ∀ (v4 : Int32) (v7 : Int32) (v8 : Int32) (σ : St), k134 v4 v7 v8 σ = some res → Wk (GS l 4 107 D cI cZ cC cG cB ad a b A) 134 [(4, .int v4), (7, .int v7), (8, .int v8)] [] σ) (hrc : ∀ (v1 : Int32) (v4 : Int32) (v5 : Int32) (v6 : Int32) (v7 : Int32) (v8 : Int32) (v9 : Int32) (σ : St), rc v1 v4 v5 v6 v7 v8 v9 σ = some res → Wk (GS l 4 107 D cI cZ cC cG cB ad a b A) 78 [(0, .ref (ad 0)), (1, .int v1), (4, .int v4), (5, .int v5), (6, .int v6), (7, .int v7), (8, .int v8), (9, .int v9)] [] σ) : ∀ (v1 : Int32), ∀ (v4 : Int32), ∀ (v5 : Int32), ∀ (v6 : Int32), ∀ (v7 : Int32), ∀ (v8 : Int32), ∀ (v9 : Int32), ∀ (σ : St), mX11_feet_128 k134 rc v1 v4 v5 v6 v7 v8 v9 σ = some res → Wk (GS l 4 107 D cI cZ cC cG cB ad a b A) 128 [(0, .ref (ad 0)), (1, .int v1), (4, .int v4), (5, .int v5), (6, .int v6), (7, .int v7), (8, .int v8), (9, .int v9)] [] σ := by
  intro v1 v4 v5 v6 v7 v8 v9 σ h
  unfold mX11_feet_128 at h
  have h := lt_some h
  refine k_iinc (lv' := [(9, _), (0, _), (1, _), (4, _), (5, _), (6, _), (7, _), (8, _)]) K dX11_feet_128 7 rfl (v := _ + 1) (by rfl) (by rw [hn]; decide) rfl ?_
  refine k_goto (tgt := 78) K dX11_feet_131 (by decide) ?_
  exact k_sub [1, 2, 3, 4, 5, 6, 7, 0] rfl (hrc _ _ _ _ _ _ _ _ h)
set_option maxRecDepth 100000 in
set_option maxHeartbeats 4000000 in
theorem wX11_feet_125 {l : Launch} {D : va_G} {cI cZ cC cG cB : ClassId} {ad : Nat → Nat} {a : Program × Env × State × MethodId} {b : Array Value × List Frame × Method × Code × (State → Prop) × Nat} {A : Nat → Prop} {k134 : Int32 → Int32 → Int32 → St → Option (Int32 × St)} {rc : Int32 → Int32 → Int32 → Int32 → Int32 → Int32 → Int32 → St → Option (Int32 × St)} (K : KS (GS l 4 107 D cI cZ cC cG cB ad a b A) cX11_feet RX11 wsX11_feet (some .int)) (hn : x_n (GS l 4 107 D cI cZ cC cG cB ad a b A) = 11) {res : (Int32 × St)} (hR : HRi (GS l 4 107 D cI cZ cC cG cB ad a b A) cX11_feet tb res) (hk134 : ∀ (v4 : Int32) (v7 : Int32) (v8 : Int32) (σ : St), k134 v4 v7 v8 σ = some res → Wk (GS l 4 107 D cI cZ cC cG cB ad a b A) 134 [(4, .int v4), (7, .int v7), (8, .int v8)] [] σ) (hrc : ∀ (v1 : Int32) (v4 : Int32) (v5 : Int32) (v6 : Int32) (v7 : Int32) (v8 : Int32) (v9 : Int32) (σ : St), rc v1 v4 v5 v6 v7 v8 v9 σ = some res → Wk (GS l 4 107 D cI cZ cC cG cB ad a b A) 78 [(0, .ref (ad 0)), (1, .int v1), (4, .int v4), (5, .int v5), (6, .int v6), (7, .int v7), (8, .int v8), (9, .int v9)] [] σ) : ∀ (v1 : Int32), ∀ (v4 : Int32), ∀ (v5 : Int32), ∀ (v6 : Int32), ∀ (v8 : Int32), ∀ (v9 : Int32), ∀ (t0 : Int32), ∀ (t1 : Int32), ∀ (σ : St), mX11_feet_125 k134 rc v1 v4 v5 v6 v8 v9 t0 t1 σ = some res → Wk (GS l 4 107 D cI cZ cC cG cB ad a b A) 125 [(0, .ref (ad 0)), (1, .int v1), (4, .int v4), (5, .int v5), (6, .int v6), (8, .int v8), (9, .int v9)] [.int t0, .int t1] σ := by
  intro v1 v4 v5 v6 v8 v9 t0 t1 σ h
  unfold mX11_feet_125 at h
  refine k_iadd K dX11_feet_125 ?_
  have h := lt_some h
  refine k_istore (lv' := [(7, _), (0, _), (1, _), (4, _), (5, _), (6, _), (8, _), (9, _)]) K dX11_feet_126 (by rw [hn]; decide) rfl ?_
  exact k_sub [1, 2, 3, 4, 5, 0, 6, 7] rfl (wX11_feet_128 K hn hR hk134 hrc _ _ _ _ _ _ _ _ h)
set_option maxRecDepth 100000 in
set_option maxHeartbeats 4000000 in
theorem wX11_feet_78 {l : Launch} {D : va_G} {cI cZ cC cG cB : ClassId} {ad : Nat → Nat} {a : Program × Env × State × MethodId} {b : Array Value × List Frame × Method × Code × (State → Prop) × Nat} {A : Nat → Prop} {k134 : Int32 → Int32 → Int32 → St → Option (Int32 × St)} (K : KS (GS l 4 107 D cI cZ cC cG cB ad a b A) cX11_feet RX11 wsX11_feet (some .int)) (hn : x_n (GS l 4 107 D cI cZ cC cG cB ad a b A) = 11) {res : (Int32 × St)} (hR : HRi (GS l 4 107 D cI cZ cC cG cB ad a b A) cX11_feet tb res) (hk134 : ∀ (v4 : Int32) (v7 : Int32) (v8 : Int32) (σ : St), k134 v4 v7 v8 σ = some res → Wk (GS l 4 107 D cI cZ cC cG cB ad a b A) 134 [(4, .int v4), (7, .int v7), (8, .int v8)] [] σ) : ∀ (n : Nat) (v1 : Int32) (v4 : Int32) (v5 : Int32) (v6 : Int32) (v7 : Int32) (v8 : Int32) (v9 : Int32) (σ : St), mX11_feet_78 k134 n v1 v4 v5 v6 v7 v8 v9 σ = some res → Wk (GS l 4 107 D cI cZ cC cG cB ad a b A) 78 [(0, .ref (ad 0)), (1, .int v1), (4, .int v4), (5, .int v5), (6, .int v6), (7, .int v7), (8, .int v8), (9, .int v9)] [] σ := by
  intro n
  induction n with
  | zero => intro v1 v4 v5 v6 v7 v8 v9 σ h; cases h
  | succ n ih =>
    intro v1 v4 v5 v6 v7 v8 v9 σ h
    unfold mX11_feet_78 at h
    refine k_iload K dX11_feet_78 7 rfl ?_
    refine k_iconst (x := 4) K dX11_feet_80 (by decide) ?_
    refine k_icmp_ge (tgt := 134) K dX11_feet_81 (by decide) (fun q => ?_) (fun q => ?_)
    · have h := if_f q h
      exact k_sub [2, 5, 6] rfl (hk134 _ _ _ _ h)
    · have h := if_t q h
      refine k_aload_n K dX11_feet_84 0 rfl ?_
      refine k_get K 0 11 2 iX11_feet_X11 (Nat.le_of_ble_eq_true rfl) ((mS_0 cI cZ cC cG cB ad) _) rfl (by decide) fX11_feet_16 rfl dX11_feet_85 ?_
      refine k_iload K dX11_feet_88 3 rfl ?_
      refine k_iload K dX11_feet_90 7 rfl ?_
      obtain ⟨⟨r18, s19⟩, e20, h⟩ := bd_some h
      dsimp only at h
      refine k_callVi K 10 2 (Nat.le_of_ble_eq_true rfl) ((mS_10 cI cZ cC cG cB ad) _) rfl (ctX2_besideOf (by decide) e20) (cwV 2 K.ts gX11_feet_X2_besideOf rfl rfl rfl hVX2_besideOf ⟨Nat.le_of_ble_eq_true rfl, Nat.le_of_ble_eq_true rfl⟩) rfl rfl (Nat.le_of_ble_eq_true rfl) dX11_feet_92 ?_
      refine k_istore (lv' := [(10, _), (0, _), (1, _), (4, _), (5, _), (6, _), (7, _), (8, _), (9, _)]) K dX11_feet_95 (by rw [hn]; decide) rfl ?_
      refine k_iload K dX11_feet_97 0 rfl ?_
      refine k_iconst (x := (-1)) K dX11_feet_99 (by decide) ?_
      refine k_icmp_eq (tgt := 128) K dX11_feet_100 (by decide) (fun q => ?_) (fun q => ?_)
      · have h := if_t q h
        exact k_sub [1, 2, 3, 4, 5, 6, 7, 8] rfl (wX11_feet_128 K hn hR hk134 ih _ _ _ _ _ _ _ _ h)
      · have h := if_f q h
        have h := lt_some h
        refine k_iinc (lv' := [(8, _), (10, _), (0, _), (1, _), (4, _), (5, _), (6, _), (7, _), (9, _)]) K dX11_feet_103 7 rfl (v := _ + 1) (by rfl) (by rw [hn]; decide) rfl ?_
        refine k_iload K dX11_feet_106 7 rfl ?_
        refine k_aload_n K dX11_feet_108 2 rfl ?_
        refine k_iload_n K dX11_feet_109 3 rfl ?_
        refine k_iload K dX11_feet_110 1 rfl ?_
        refine k_iload K dX11_feet_112 6 rfl ?_
        obtain ⟨⟨r23, s24⟩, e25, h⟩ := bd_some h
        dsimp only at h
        refine k_callVi K 0 11 (Nat.le_of_ble_eq_true rfl) ((mS_0 cI cZ cC cG cB ad) _) rfl (ctX11_endsAt e25) (cwV 3 K.ts gX11_feet_X11_endsAt rfl rfl rfl hVX11_endsAt ⟨Nat.le_of_ble_eq_true rfl, Nat.le_of_ble_eq_true rfl⟩) rfl rfl (Nat.le_of_ble_eq_true rfl) dX11_feet_114 ?_
        refine k_if_eq (tgt := 124) K dX11_feet_117 (by decide) (fun q => ?_) (fun q => ?_)
        · have h := if_t q h
          refine k_iconst (x := 0) K dX11_feet_124 (by decide) ?_
          exact k_sub [2, 3, 4, 5, 6, 0, 8] rfl (wX11_feet_125 K hn hR hk134 ih _ _ _ _ _ _ _ _ _ h)
        · have h := if_f q h
          refine k_iconst (x := 1) K dX11_feet_120 (by decide) ?_
          refine k_goto (tgt := 125) K dX11_feet_121 (by decide) ?_
          exact k_sub [2, 3, 4, 5, 6, 0, 8] rfl (wX11_feet_125 K hn hR hk134 ih _ _ _ _ _ _ _ _ _ h)
set_option maxRecDepth 100000 in
set_option maxHeartbeats 4000000 in
theorem wX11_feet_70 {l : Launch} {D : va_G} {cI cZ cC cG cB : ClassId} {ad : Nat → Nat} {a : Program × Env × State × MethodId} {b : Array Value × List Frame × Method × Code × (State → Prop) × Nat} {A : Nat → Prop} (K : KS (GS l 4 107 D cI cZ cC cG cB ad a b A) cX11_feet RX11 wsX11_feet (some .int)) (hn : x_n (GS l 4 107 D cI cZ cC cG cB ad a b A) = 11) {res : (Int32 × St)} (hR : HRi (GS l 4 107 D cI cZ cC cG cB ad a b A) cX11_feet tb res) : ∀ (v1 : Int32), ∀ (v4 : Int32), ∀ (v5 : Int32), ∀ (v6 : Int32), ∀ (t0 : Int32), ∀ (σ : St), mX11_feet_70 v1 v4 v5 v6 t0 σ = some res → Wk (GS l 4 107 D cI cZ cC cG cB ad a b A) 70 [(0, .ref (ad 0)), (1, .int v1), (4, .int v4), (5, .int v5), (6, .int v6)] [.int t0] σ := by
  intro v1 v4 v5 v6 t0 σ h
  unfold mX11_feet_70 at h
  refine k_istore (lv' := [(7, _), (0, _), (1, _), (4, _), (5, _), (6, _)]) K dX11_feet_70 (by rw [hn]; decide) rfl ?_
  refine k_iconst (x := 1) K dX11_feet_72 (by decide) ?_
  refine k_istore (lv' := [(8, _), (7, _), (0, _), (1, _), (4, _), (5, _), (6, _)]) K dX11_feet_73 (by rw [hn]; decide) rfl ?_
  refine k_iconst (x := 0) K dX11_feet_75 (by decide) ?_
  refine k_istore (lv' := [(9, _), (8, _), (7, _), (0, _), (1, _), (4, _), (5, _), (6, _)]) K dX11_feet_76 (by rw [hn]; decide) rfl ?_
  exact k_sub [3, 4, 5, 6, 7, 2, 1, 0] rfl (wX11_feet_78 K hn hR (fun v4 v7 v8 σ h => wX11_feet_134 K hn hR v4 v7 v8 σ h) FU _ _ _ _ _ _ _ _ h)
set_option maxRecDepth 100000 in
set_option maxHeartbeats 4000000 in
theorem wX11_feet_53 {l : Launch} {D : va_G} {cI cZ cC cG cB : ClassId} {ad : Nat → Nat} {a : Program × Env × State × MethodId} {b : Array Value × List Frame × Method × Code × (State → Prop) × Nat} {A : Nat → Prop} (K : KS (GS l 4 107 D cI cZ cC cG cB ad a b A) cX11_feet RX11 wsX11_feet (some .int)) (hn : x_n (GS l 4 107 D cI cZ cC cG cB ad a b A) = 11) {res : (Int32 × St)} (hR : HRi (GS l 4 107 D cI cZ cC cG cB ad a b A) cX11_feet tb res) : ∀ (v1 : Int32), ∀ (v4 : Int32), ∀ (v5 : Int32), ∀ (v6 : Int32), ∀ (σ : St), mX11_feet_53 v1 v4 v5 v6 σ = some res → Wk (GS l 4 107 D cI cZ cC cG cB ad a b A) 53 [(0, .ref (ad 0)), (1, .int v1), (4, .int v4), (5, .int v5), (6, .int v6)] [] σ := by
  intro v1 v4 v5 v6 σ h
  unfold mX11_feet_53 at h
  refine k_aload_n K dX11_feet_53 0 rfl ?_
  refine k_iload_n K dX11_feet_54 1 rfl ?_
  refine k_iload K dX11_feet_55 3 rfl ?_
  refine k_iload K dX11_feet_57 4 rfl ?_
  obtain ⟨⟨r10, s11⟩, e12, h⟩ := bd_some h
  dsimp only at h
  refine k_callVi K 0 11 (Nat.le_of_ble_eq_true rfl) ((mS_0 cI cZ cC cG cB ad) _) rfl (ctX11_endsAt e12) (cwV 3 K.ts gX11_feet_X11_endsAt rfl rfl rfl hVX11_endsAt ⟨Nat.le_of_ble_eq_true rfl, Nat.le_of_ble_eq_true rfl⟩) rfl rfl (Nat.le_of_ble_eq_true rfl) dX11_feet_59 ?_
  refine k_if_eq (tgt := 69) K dX11_feet_62 (by decide) (fun q => ?_) (fun q => ?_)
  · have h := if_t q h
    refine k_iconst (x := 0) K dX11_feet_69 (by decide) ?_
    exact k_sub [0, 1, 2, 3, 4] rfl (wX11_feet_70 K hn hR _ _ _ _ _ _ h)
  · have h := if_f q h
    refine k_iconst (x := 1) K dX11_feet_65 (by decide) ?_
    refine k_goto (tgt := 70) K dX11_feet_66 (by decide) ?_
    exact k_sub [0, 1, 2, 3, 4] rfl (wX11_feet_70 K hn hR _ _ _ _ _ _ h)
set_option maxRecDepth 100000 in
set_option maxHeartbeats 4000000 in
theorem ctX11_feet {l : Launch} {D : va_G} {cI cZ cC cG cB : ClassId} {ad : Nat → Nat} {v1 : Int32} {v2 : Int32} {v3 : Int32} {v4 : Int32} {σ : St} {res : (Int32 × St)} (h : mX11_feet v1 v2 v3 v4 σ = some res) : Ci l yX11_feet wsX11_feet 4 107 D vwCl (tysS cI cZ cC cG cB) nwS (mkS cI cZ cC cG cB ad) ad 75 [.ref (ad 0), .int v1, .int v2, .int v3, .int v4] σ res := by
  refine c_int (cc := cX11_feet) (maxL := 11) (by decide) rfl (Nat.le_of_ble_eq_true rfl) fun a b hn K hR => ?_
  unfold mX11_feet at h
  have K : KS (GS l 4 107 D cI cZ cC cG cB ad a b (w_A ad 75)) cX11_feet RX11 wsX11_feet (some .int) := K
  have hn : x_n (GS l 4 107 D cI cZ cC cG cB ad a b (w_A ad 75)) = 11 := hn
  refine k_sub [0, 1, 2, 3, 4] rfl ?_
  refine k_aload_n K dX11_feet_0 0 rfl ?_
  refine k_get K 0 11 2 iX11_feet_X11 (Nat.le_of_ble_eq_true rfl) ((mS_0 cI cZ cC cG cB ad) _) rfl (by decide) fX11_feet_16 rfl dX11_feet_1 ?_
  refine k_iload_n K dX11_feet_4 2 rfl ?_
  obtain ⟨⟨r1, s2⟩, e3, h⟩ := bd_some h
  dsimp only at h
  refine k_callVi K 10 2 (Nat.le_of_ble_eq_true rfl) ((mS_10 cI cZ cC cG cB ad) _) rfl (ctX2_cellOfPair (by decide) e3) (cwV 1 K.ts gX11_feet_X2_cellOfPair rfl rfl rfl hVX2_cellOfPair ⟨Nat.le_of_ble_eq_true rfl, Nat.le_of_ble_eq_true rfl⟩) rfl rfl (Nat.le_of_ble_eq_true rfl) dX11_feet_5 ?_
  refine k_istore (lv' := [(5, _), (0, _), (1, _), (2, _), (3, _), (4, _)]) K dX11_feet_8 (by rw [hn]; decide) rfl ?_
  refine k_aload_n K dX11_feet_10 1 rfl ?_
  refine k_get K 0 11 2 iX11_feet_X11 (Nat.le_of_ble_eq_true rfl) ((mS_0 cI cZ cC cG cB ad) _) rfl (by decide) fX11_feet_16 rfl dX11_feet_11 ?_
  refine k_iload_n K dX11_feet_14 4 rfl ?_
  obtain ⟨⟨r4, s5⟩, e6, h⟩ := bd_some h
  dsimp only at h
  refine k_callVi K 10 2 (Nat.le_of_ble_eq_true rfl) ((mS_10 cI cZ cC cG cB ad) _) rfl (ctX2_cellOfPair (by decide) e6) (cwV 1 K.ts gX11_feet_X2_cellOfPair rfl rfl rfl hVX2_cellOfPair ⟨Nat.le_of_ble_eq_true rfl, Nat.le_of_ble_eq_true rfl⟩) rfl rfl (Nat.le_of_ble_eq_true rfl) dX11_feet_15 ?_
  refine k_istore (lv' := [(6, _), (5, _), (0, _), (1, _), (2, _), (3, _), (4, _)]) K dX11_feet_18 (by rw [hn]; decide) rfl ?_
  refine k_aload_n K dX11_feet_20 2 rfl ?_
  refine k_iload_n K dX11_feet_21 3 rfl ?_
  obtain ⟨⟨r7, s8⟩, e9, h⟩ := bd_some h
  dsimp only at h
  refine k_callVi K 0 11 (Nat.le_of_ble_eq_true rfl) ((mS_0 cI cZ cC cG cB ad) _) rfl (ctX11_isKind e9) (cwV 1 K.ts gX11_feet_X11_isKind rfl rfl rfl hVX11_isKind ⟨Nat.le_of_ble_eq_true rfl, Nat.le_of_ble_eq_true rfl⟩) rfl rfl (Nat.le_of_ble_eq_true rfl) dX11_feet_22 ?_
  refine k_if_eq (tgt := 51) K dX11_feet_25 (by decide) (fun q => ?_) (fun q => ?_)
  · have h := if_t q h
    refine k_iconst (x := (-1)) K dX11_feet_51 (by decide) ?_
    exact ret_i hR h dX11_feet_52 trivial
  · have h := if_f q h
    refine k_iload K dX11_feet_28 1 rfl ?_
    refine k_iconst (x := (-1)) K dX11_feet_30 (by decide) ?_
    refine k_icmp_eq (tgt := 51) K dX11_feet_31 (by decide) (fun q => ?_) (fun q => ?_)
    · have h := if_t q h
      refine k_iconst (x := (-1)) K dX11_feet_51 (by decide) ?_
      exact ret_i hR h dX11_feet_52 trivial
    · have h := if_f q h
      refine k_iload K dX11_feet_34 0 rfl ?_
      refine k_iconst (x := (-1)) K dX11_feet_36 (by decide) ?_
      refine k_icmp_eq (tgt := 51) K dX11_feet_37 (by decide) (fun q => ?_) (fun q => ?_)
      · have h := if_t q h
        refine k_iconst (x := (-1)) K dX11_feet_51 (by decide) ?_
        exact ret_i hR h dX11_feet_52 trivial
      · have h := if_f q h
        refine k_iload K dX11_feet_40 6 rfl ?_
        refine k_if_eq (tgt := 53) K dX11_feet_42 (by decide) (fun q => ?_) (fun q => ?_)
        · have h := if_t q h
          exact k_sub [2, 3, 6, 1, 0] rfl (wX11_feet_53 K hn hR _ _ _ _ _ h)
        · have h := if_f q h
          refine k_iload K dX11_feet_45 6 rfl ?_
          refine k_iconst (x := 1) K dX11_feet_47 (by decide) ?_
          refine k_icmp_eq (tgt := 53) K dX11_feet_48 (by decide) (fun q => ?_) (fun q => ?_)
          · have h := if_t q h
            exact k_sub [2, 3, 6, 1, 0] rfl (wX11_feet_53 K hn hR _ _ _ _ _ h)
          · have h := if_f q h
            refine k_iconst (x := (-1)) K dX11_feet_51 (by decide) ?_
            exact ret_i hR h dX11_feet_52 trivial
-- X11_endOf (3, 84)
theorem iX11_endOf_X11 : ∀ w ∈ wsX110, w ∈ wsX11_endOf := fun _ h => List.mem_cons_of_mem _ (List.mem_append_left _ (List.mem_append_left _ (List.mem_append_left _ (List.mem_append_right _ h))))
theorem fX11_endOf_16 : Cond.fieldLink RX11 16 "SlopeCoins" "city" "LSlopeCoins$City;" ∈ wsX11_endOf := by decide +kernel
theorem fX11_endOf_33 : Cond.fieldLink RX11 33 "SlopeCoins" "ground" "LSlopeCoins$Ground;" ∈ wsX11_endOf := by decide +kernel
theorem fX11_endOf_48 : Cond.fieldLink RX11 48 "SlopeCoins" "roll" "LSlopeCoins$Roll;" ∈ wsX11_endOf := by decide +kernel
set_option maxRecDepth 100000 in
set_option maxHeartbeats 4000000 in
theorem ctX11_endOf {l : Launch} {D : va_G} {cI cZ cC cG cB : ClassId} {ad : Nat → Nat} {v1 : Int32} {v2 : Int32} {σ : St} {res : (Int32 × St)} (h : mX11_endOf v1 v2 σ = some res) : Ci l yX11_endOf wsX11_endOf 3 84 D vwCl (tysS cI cZ cC cG cB) nwS (mkS cI cZ cC cG cB ad) ad 75 [.ref (ad 0), .int v1, .int v2] σ res := by
  refine c_int (cc := cX11_endOf) (maxL := 3) (by decide) rfl (Nat.le_of_ble_eq_true rfl) fun a b hn K hR => ?_
  unfold mX11_endOf at h
  have K : KS (GS l 3 84 D cI cZ cC cG cB ad a b (w_A ad 75)) cX11_endOf RX11 wsX11_endOf (some .int) := K
  have hn : x_n (GS l 3 84 D cI cZ cC cG cB ad a b (w_A ad 75)) = 3 := hn
  refine k_sub [0, 1, 2] rfl ?_
  refine k_aload_n K dX11_endOf_0 0 rfl ?_
  refine k_get K 0 11 8 iX11_endOf_X11 (Nat.le_of_ble_eq_true rfl) ((mS_0 cI cZ cC cG cB ad) _) rfl (by decide) fX11_endOf_48 rfl dX11_endOf_1 ?_
  refine k_aload_n K dX11_endOf_4 0 rfl ?_
  refine k_get K 0 11 2 iX11_endOf_X11 (Nat.le_of_ble_eq_true rfl) ((mS_0 cI cZ cC cG cB ad) _) rfl (by decide) fX11_endOf_16 rfl dX11_endOf_5 ?_
  refine k_aload_n K dX11_endOf_8 0 rfl ?_
  refine k_get K 0 11 5 iX11_endOf_X11 (Nat.le_of_ble_eq_true rfl) ((mS_0 cI cZ cC cG cB ad) _) rfl (by decide) fX11_endOf_33 rfl dX11_endOf_9 ?_
  refine k_iload_n K dX11_endOf_12 1 rfl ?_
  refine k_iload_n K dX11_endOf_13 2 rfl ?_
  obtain ⟨⟨r1, s2⟩, e3, h⟩ := bd_some h
  dsimp only at h
  refine k_callVv K 59 8 (Nat.le_of_ble_eq_true rfl) ((mS_59 cI cZ cC cG cB ad) _) rfl (ctX8_goAs (by decide) e3) (cwV 4 K.ts gX11_endOf_X8_goAs rfl rfl rfl hVX8_goAs ⟨Nat.le_of_ble_eq_true rfl, Nat.le_of_ble_eq_true rfl⟩) rfl rfl (Nat.le_of_ble_eq_true rfl) dX11_endOf_14 ?_
  refine k_aload_n K dX11_endOf_17 0 rfl ?_
  obtain ⟨⟨r4, s5⟩, e6, h⟩ := bd_some h
  dsimp only at h
  refine k_callVi K 0 11 (Nat.le_of_ble_eq_true rfl) ((mS_0 cI cZ cC cG cB ad) _) rfl (ctX11_endCode e6) (cwV 0 K.ts gX11_endOf_X11_endCode rfl rfl rfl hVX11_endCode ⟨Nat.le_of_ble_eq_true rfl, Nat.le_of_ble_eq_true rfl⟩) rfl rfl (Nat.le_of_ble_eq_true rfl) dX11_endOf_18 ?_
  exact ret_i hR h dX11_endOf_21 trivial
-- X11_apartBits (4, 106)
theorem iX11_apartBits_X11 : ∀ w ∈ wsX110, w ∈ wsX11_apartBits := fun _ h => List.mem_cons_of_mem _ (List.mem_append_left _ (List.mem_append_left _ (List.mem_append_left _ (List.mem_append_right _ h))))
theorem iX11_apartBits_X2 : ∀ w ∈ wsX20, w ∈ wsX11_apartBits := fun _ h => List.mem_cons_of_mem _ (List.mem_append_left _ (List.mem_append_left _ (List.mem_append_right _ h)))
theorem fX11_apartBits_16 : Cond.fieldLink RX11 16 "SlopeCoins" "city" "LSlopeCoins$City;" ∈ wsX11_apartBits := by decide +kernel
theorem fX11_apartBits_232 : Cond.fieldLink RX11 232 "SlopeCoins$City" "cells" "I" ∈ wsX11_apartBits := by decide +kernel
set_option maxRecDepth 100000 in
set_option maxHeartbeats 4000000 in
theorem wX11_apartBits_41 {l : Launch} {D : va_G} {cI cZ cC cG cB : ClassId} {ad : Nat → Nat} {a : Program × Env × State × MethodId} {b : Array Value × List Frame × Method × Code × (State → Prop) × Nat} {A : Nat → Prop} {rc : Int32 → Int32 → Int32 → Int32 → St → Option (Int32 × St)} (K : KS (GS l 4 106 D cI cZ cC cG cB ad a b A) cX11_apartBits RX11 wsX11_apartBits (some .int)) (hn : x_n (GS l 4 106 D cI cZ cC cG cB ad a b A) = 5) {res : (Int32 × St)} (hR : HRi (GS l 4 106 D cI cZ cC cG cB ad a b A) cX11_apartBits tb res) (hrc : ∀ (v1 : Int32) (v2 : Int32) (v3 : Int32) (v4 : Int32) (σ : St), rc v1 v2 v3 v4 σ = some res → Wk (GS l 4 106 D cI cZ cC cG cB ad a b A) 5 [(0, .ref (ad 0)), (1, .int v1), (2, .int v2), (3, .int v3), (4, .int v4)] [] σ) : ∀ (v1 : Int32), ∀ (v2 : Int32), ∀ (v3 : Int32), ∀ (v4 : Int32), ∀ (σ : St), mX11_apartBits_41 rc v1 v2 v3 v4 σ = some res → Wk (GS l 4 106 D cI cZ cC cG cB ad a b A) 41 [(0, .ref (ad 0)), (1, .int v1), (2, .int v2), (3, .int v3), (4, .int v4)] [] σ := by
  intro v1 v2 v3 v4 σ h
  unfold mX11_apartBits_41 at h
  have h := lt_some h
  refine k_iinc (lv' := [(4, _), (0, _), (1, _), (2, _), (3, _)]) K dX11_apartBits_41 4 rfl (v := _ + 1) (by rfl) (by rw [hn]; decide) rfl ?_
  refine k_goto (tgt := 5) K dX11_apartBits_44 (by decide) ?_
  exact k_sub [1, 2, 3, 4, 0] rfl (hrc _ _ _ _ _ h)
set_option maxRecDepth 100000 in
set_option maxHeartbeats 4000000 in
theorem wX11_apartBits_5 {l : Launch} {D : va_G} {cI cZ cC cG cB : ClassId} {ad : Nat → Nat} {a : Program × Env × State × MethodId} {b : Array Value × List Frame × Method × Code × (State → Prop) × Nat} {A : Nat → Prop} (K : KS (GS l 4 106 D cI cZ cC cG cB ad a b A) cX11_apartBits RX11 wsX11_apartBits (some .int)) (hn : x_n (GS l 4 106 D cI cZ cC cG cB ad a b A) = 5) {res : (Int32 × St)} (hR : HRi (GS l 4 106 D cI cZ cC cG cB ad a b A) cX11_apartBits tb res) : ∀ (n : Nat) (v1 : Int32) (v2 : Int32) (v3 : Int32) (v4 : Int32) (σ : St), mX11_apartBits_5 n v1 v2 v3 v4 σ = some res → Wk (GS l 4 106 D cI cZ cC cG cB ad a b A) 5 [(0, .ref (ad 0)), (1, .int v1), (2, .int v2), (3, .int v3), (4, .int v4)] [] σ := by
  intro n
  induction n with
  | zero => intro v1 v2 v3 v4 σ h; cases h
  | succ n ih =>
    intro v1 v2 v3 v4 σ h
    unfold mX11_apartBits_5 at h
    refine k_iload K dX11_apartBits_5 4 rfl ?_
    refine k_aload_n K dX11_apartBits_7 0 rfl ?_
    refine k_get K 0 11 2 iX11_apartBits_X11 (Nat.le_of_ble_eq_true rfl) ((mS_0 cI cZ cC cG cB ad) _) rfl (by decide) fX11_apartBits_16 rfl dX11_apartBits_8 ?_
    refine k_get K 10 2 2 iX11_apartBits_X2 (Nat.le_of_ble_eq_true rfl) ((mS_10 cI cZ cC cG cB ad) _) rfl (by decide) fX11_apartBits_232 rfl dX11_apartBits_11 ?_
    refine k_icmp_ge (tgt := 47) K dX11_apartBits_14 (by decide) (fun q => ?_) (fun q => ?_)
    · have h := if_f q h
      refine k_iload_n K dX11_apartBits_47 3 rfl ?_
      exact ret_i hR h dX11_apartBits_48 trivial
    · have h := if_t q h
      refine k_aload_n K dX11_apartBits_17 0 rfl ?_
      refine k_iload_n K dX11_apartBits_18 1 rfl ?_
      refine k_iload K dX11_apartBits_19 4 rfl ?_
      obtain ⟨⟨r1, s2⟩, e3, h⟩ := bd_some h
      dsimp only at h
      refine k_callVi K 0 11 (Nat.le_of_ble_eq_true rfl) ((mS_0 cI cZ cC cG cB ad) _) rfl (ctX11_endOf e3) (cwV 2 K.ts gX11_apartBits_X11_endOf rfl rfl rfl hVX11_endOf ⟨Nat.le_of_ble_eq_true rfl, Nat.le_of_ble_eq_true rfl⟩) rfl rfl (Nat.le_of_ble_eq_true rfl) dX11_apartBits_21 ?_
      refine k_aload_n K dX11_apartBits_24 0 rfl ?_
      refine k_iload_n K dX11_apartBits_25 2 rfl ?_
      refine k_iload K dX11_apartBits_26 4 rfl ?_
      obtain ⟨⟨r4, s5⟩, e6, h⟩ := bd_some h
      dsimp only at h
      refine k_callVi K 0 11 (Nat.le_of_ble_eq_true rfl) ((mS_0 cI cZ cC cG cB ad) _) rfl (ctX11_endOf e6) (cwV 2 K.ts gX11_apartBits_X11_endOf rfl rfl rfl hVX11_endOf ⟨Nat.le_of_ble_eq_true rfl, Nat.le_of_ble_eq_true rfl⟩) rfl rfl (Nat.le_of_ble_eq_true rfl) dX11_apartBits_28 ?_
      refine k_icmp_eq (tgt := 41) K dX11_apartBits_31 (by decide) (fun q => ?_) (fun q => ?_)
      · have h := if_t q h
        exact k_sub [0, 1, 2, 3, 4] rfl (wX11_apartBits_41 K hn hR ih _ _ _ _ _ h)
      · have h := if_f q h
        refine k_iload_n K dX11_apartBits_34 3 rfl ?_
        refine k_iconst (x := 1) K dX11_apartBits_35 (by decide) ?_
        refine k_iload K dX11_apartBits_36 4 rfl ?_
        refine k_ishl K dX11_apartBits_38 ?_
        refine k_ior K dX11_apartBits_39 ?_
        have h := lt_some h
        refine k_istore_n (lv' := [(3, _), (0, _), (1, _), (2, _), (4, _)]) K dX11_apartBits_40 (by rw [hn]; decide) rfl ?_
        exact k_sub [1, 2, 3, 0, 4] rfl (wX11_apartBits_41 K hn hR ih _ _ _ _ _ h)
set_option maxRecDepth 100000 in
set_option maxHeartbeats 4000000 in
theorem ctX11_apartBits {l : Launch} {D : va_G} {cI cZ cC cG cB : ClassId} {ad : Nat → Nat} {v1 : Int32} {v2 : Int32} {σ : St} {res : (Int32 × St)} (h : mX11_apartBits v1 v2 σ = some res) : Ci l yX11_apartBits wsX11_apartBits 4 106 D vwCl (tysS cI cZ cC cG cB) nwS (mkS cI cZ cC cG cB ad) ad 75 [.ref (ad 0), .int v1, .int v2] σ res := by
  refine c_int (cc := cX11_apartBits) (maxL := 5) (by decide) rfl (Nat.le_of_ble_eq_true rfl) fun a b hn K hR => ?_
  unfold mX11_apartBits at h
  have K : KS (GS l 4 106 D cI cZ cC cG cB ad a b (w_A ad 75)) cX11_apartBits RX11 wsX11_apartBits (some .int) := K
  have hn : x_n (GS l 4 106 D cI cZ cC cG cB ad a b (w_A ad 75)) = 5 := hn
  refine k_sub [0, 1, 2] rfl ?_
  refine k_iconst (x := 0) K dX11_apartBits_0 (by decide) ?_
  refine k_istore_n (lv' := [(3, _), (0, _), (1, _), (2, _)]) K dX11_apartBits_1 (by rw [hn]; decide) rfl ?_
  refine k_iconst (x := 0) K dX11_apartBits_2 (by decide) ?_
  refine k_istore (lv' := [(4, _), (3, _), (0, _), (1, _), (2, _)]) K dX11_apartBits_3 (by rw [hn]; decide) rfl ?_
  exact k_sub [2, 3, 4, 1, 0] rfl (wX11_apartBits_5 K hn hR FU _ _ _ _ _ h)

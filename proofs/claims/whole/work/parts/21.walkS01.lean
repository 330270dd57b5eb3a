/-! walks, by program -/
-- X3_letCome (3, 84)
set_option maxRecDepth 100000 in
set_option maxHeartbeats 4000000 in
theorem wX3_letCome_26 {l : Launch} {D : va_G} {cI cZ cC cG cB : ClassId} {ad : Nat → Nat} {a : Program × Env × State × MethodId} {b : Array Value × List Frame × Method × Code × (State → Prop) × Nat} {A : Nat → Prop} (K : KS (GS l 3 84 D cI cZ cC cG cB ad a b A) cX3_letCome RX3 wsX3_letCome none) (hn : x_n (GS l 3 84 D cI cZ cC cG cB ad a b A) = 4) {res : (Int32 × St)} (hR : HRv (GS l 3 84 D cI cZ cC cG cB ad a b A) cX3_letCome res) : ∀ (v1 : Int32), ∀ (v3 : Int32), ∀ (t0 : Int32), ∀ (σ : St), mX3_letCome_26 v1 v3 t0 σ = some res → Wk (GS l 3 84 D cI cZ cC cG cB ad a b A) 26 [(1, .int v1), (3, .int v3)] [.int t0, .ref (ad 26)] σ := by
  intro v1 v3 t0 σ h
  unfold mX3_letCome_26 at h
  refine k_iload_n K dX3_letCome_26 0 rfl ?_
  refine k_iconst (x := 1) K dX3_letCome_27 (by decide) ?_
  refine k_iload_n K dX3_letCome_28 1 rfl ?_
  obtain ⟨⟨r4, s5⟩, e6, h⟩ := bd_some h
  dsimp only at h
  refine k_callVv K 26 3 (Nat.le_of_ble_eq_true rfl) ((mS_26 cI cZ cC cG cB ad) _) rfl (ctX3_note e6) (cwV 4 K.ts gX3_letCome_X3_note rfl rfl rfl hVX3_note ⟨Nat.le_of_ble_eq_true rfl, Nat.le_of_ble_eq_true rfl⟩) rfl rfl (Nat.le_of_ble_eq_true rfl) dX3_letCome_29 ?_
  exact ret_v hR h dX3_letCome_32
set_option maxRecDepth 100000 in
set_option maxHeartbeats 4000000 in
theorem wX3_letCome_10 {l : Launch} {D : va_G} {cI cZ cC cG cB : ClassId} {ad : Nat → Nat} {a : Program × Env × State × MethodId} {b : Array Value × List Frame × Method × Code × (State → Prop) × Nat} {A : Nat → Prop} (K : KS (GS l 3 84 D cI cZ cC cG cB ad a b A) cX3_letCome RX3 wsX3_letCome none) (hn : x_n (GS l 3 84 D cI cZ cC cG cB ad a b A) = 4) {res : (Int32 × St)} (hR : HRv (GS l 3 84 D cI cZ cC cG cB ad a b A) cX3_letCome res) : ∀ (v1 : Int32), ∀ (v2 : Int32), ∀ (v3 : Int32), ∀ (t0 : Int32), ∀ (σ : St), mX3_letCome_10 v1 v2 v3 t0 σ = some res → Wk (GS l 3 84 D cI cZ cC cG cB ad a b A) 10 [(0, .ref (ad 26)), (1, .int v1), (2, .int v2), (3, .int v3)] [.int t0, .ref (ad 26)] σ := by
  intro v1 v2 v3 t0 σ h
  unfold mX3_letCome_10 at h
  refine k_iload_n K dX3_letCome_10 1 rfl ?_
  refine k_iconst (x := 1) K dX3_letCome_11 (by decide) ?_
  refine k_iload_n K dX3_letCome_12 3 rfl ?_
  obtain ⟨⟨r1, s2⟩, e3, h⟩ := bd_some h
  dsimp only at h
  refine k_callVv K 26 3 (Nat.le_of_ble_eq_true rfl) ((mS_26 cI cZ cC cG cB ad) _) rfl (ctX3_addCoins e3) (cwV 4 K.ts gX3_letCome_X3_addCoins rfl rfl rfl hVX3_addCoins ⟨Nat.le_of_ble_eq_true rfl, Nat.le_of_ble_eq_true rfl⟩) rfl rfl (Nat.le_of_ble_eq_true rfl) dX3_letCome_13 ?_
  refine k_aload_n K dX3_letCome_16 0 rfl ?_
  refine k_iload_n K dX3_letCome_17 2 rfl ?_
  refine k_if_eq (tgt := 25) K dX3_letCome_18 (by decide) (fun q => ?_) (fun q => ?_)
  · have h := if_t q h
    refine k_iconst (x := 0) K dX3_letCome_25 (by decide) ?_
    exact k_sub [1, 3] rfl (wX3_letCome_26 K hn hR _ _ _ _ h)
  · have h := if_f q h
    refine k_iconst (x := 1) K dX3_letCome_21 (by decide) ?_
    refine k_goto (tgt := 26) K dX3_letCome_22 (by decide) ?_
    exact k_sub [1, 3] rfl (wX3_letCome_26 K hn hR _ _ _ _ h)
set_option maxRecDepth 100000 in
set_option maxHeartbeats 4000000 in
theorem ctX3_letCome {l : Launch} {D : va_G} {cI cZ cC cG cB : ClassId} {ad : Nat → Nat} {v1 : Int32} {v2 : Int32} {v3 : Int32} {σ : St} {res : (Int32 × St)} (h : mX3_letCome v1 v2 v3 σ = some res) : Cv l yX3_letCome wsX3_letCome 3 84 D vwCl (tysS cI cZ cC cG cB) nwS (mkS cI cZ cC cG cB ad) ad 75 [.ref (ad 26), .int v1, .int v2, .int v3] σ res := by
  refine c_void (cc := cX3_letCome) (maxL := 4) (by decide) rfl (Nat.le_of_ble_eq_true rfl) fun a b hn K hR => ?_
  unfold mX3_letCome at h
  have K : KS (GS l 3 84 D cI cZ cC cG cB ad a b (w_A ad 75)) cX3_letCome RX3 wsX3_letCome none := K
  have hn : x_n (GS l 3 84 D cI cZ cC cG cB ad a b (w_A ad 75)) = 4 := hn
  refine k_sub [0, 1, 2, 3] rfl ?_
  refine k_aload_n K dX3_letCome_0 0 rfl ?_
  refine k_iload_n K dX3_letCome_1 2 rfl ?_
  refine k_if_eq (tgt := 9) K dX3_letCome_2 (by decide) (fun q => ?_) (fun q => ?_)
  · have h := if_t q h
    refine k_iconst (x := 0) K dX3_letCome_9 (by decide) ?_
    exact k_sub [0, 1, 2, 3] rfl (wX3_letCome_10 K hn hR _ _ _ _ _ h)
  · have h := if_f q h
    refine k_iconst (x := 1) K dX3_letCome_5 (by decide) ?_
    refine k_goto (tgt := 10) K dX3_letCome_6 (by decide) ?_
    exact k_sub [0, 1, 2, 3] rfl (wX3_letCome_10 K hn hR _ _ _ _ _ h)
-- X3_turnPlank (1, 22)
theorem iX3_turnPlank_X3 : ∀ w ∈ wsX30, w ∈ wsX3_turnPlank := fun _ h => List.mem_cons_of_mem _ (List.mem_append_left _ (List.mem_append_right _ h))
theorem fX3_turnPlank_15 : Cond.fieldLink RX3 15 "SlopeCoins$Ground" "plank" "[I" ∈ wsX3_turnPlank := by decide +kernel
theorem fX3_turnPlank_42 : Cond.fieldLink RX3 42 "SlopeCoins$Ground" "planks" "I" ∈ wsX3_turnPlank := by decide +kernel
set_option maxRecDepth 100000 in
set_option maxHeartbeats 4000000 in
theorem ctX3_turnPlank {l : Launch} {D : va_G} {cI cZ cC cG cB : ClassId} {ad : Nat → Nat} {v2 : Int32} {v3 : Int32} {σ : St} {res : (Int32 × St)} (h : mX3_turnPlank v2 v3 σ = some res) : Cv l yX3_turnPlank wsX3_turnPlank 1 22 D vwCl (tysS cI cZ cC cG cB) nwS (mkS cI cZ cC cG cB ad) ad 75 [.ref (ad 26), .ref (ad 10), .int v2, .int v3] σ res := by
  refine c_void (cc := cX3_turnPlank) (maxL := 5) (by decide) rfl (Nat.le_of_ble_eq_true rfl) fun a b hn K hR => ?_
  unfold mX3_turnPlank at h
  have K : KS (GS l 1 22 D cI cZ cC cG cB ad a b (w_A ad 75)) cX3_turnPlank RX3 wsX3_turnPlank none := K
  have hn : x_n (GS l 1 22 D cI cZ cC cG cB ad a b (w_A ad 75)) = 5 := hn
  refine k_sub [0, 1, 2, 3] rfl ?_
  refine k_aload_n K dX3_turnPlank_0 1 rfl ?_
  refine k_iload_n K dX3_turnPlank_1 2 rfl ?_
  refine k_iload_n K dX3_turnPlank_2 3 rfl ?_
  obtain ⟨⟨r1, s2⟩, e3, h⟩ := bd_some h
  dsimp only at h
  refine k_callVi K 10 2 (Nat.le_of_ble_eq_true rfl) ((mS_10 cI cZ cC cG cB ad) _) rfl (ctX2_besideOf (by decide) e3) (cwV 2 K.ts gX3_turnPlank_X2_besideOf rfl rfl rfl hVX2_besideOf ⟨Nat.le_of_ble_eq_true rfl, Nat.le_of_ble_eq_true rfl⟩) rfl rfl (Nat.le_of_ble_eq_true rfl) dX3_turnPlank_3 ?_
  refine k_istore (lv' := [(4, _), (0, _), (1, _), (2, _), (3, _)]) K dX3_turnPlank_6 (by rw [hn]; decide) rfl ?_
  refine k_iload K dX3_turnPlank_8 0 rfl ?_
  refine k_iconst (x := (-1)) K dX3_turnPlank_10 (by decide) ?_
  refine k_icmp_ne (tgt := 15) K dX3_turnPlank_11 (by decide) (fun q => ?_) (fun q => ?_)
  · have h := if_f q h
    refine k_aload_n K dX3_turnPlank_15 1 rfl ?_
    refine k_get K 26 3 3 iX3_turnPlank_X3 (Nat.le_of_ble_eq_true rfl) ((mS_26 cI cZ cC cG cB ad) _) rfl (by decide) fX3_turnPlank_15 rfl dX3_turnPlank_16 ?_
    refine k_iload_n K dX3_turnPlank_19 3 rfl ?_
    refine k_dup2 K dX3_turnPlank_20 rfl rfl ?_
    obtain ⟨g4, h⟩ := gd_some h
    refine k_ild K 28 0 (Nat.le_of_ble_eq_true rfl) ((mS_28 cI cZ cC cG cB ad) _) rfl g4 dX3_turnPlank_21 ?_
    refine k_iconst (x := 1) K dX3_turnPlank_22 (by decide) ?_
    refine k_iload_n K dX3_turnPlank_23 4 rfl ?_
    refine k_ishl K dX3_turnPlank_24 ?_
    refine k_ixor K dX3_turnPlank_25 ?_
    obtain ⟨g5, h⟩ := gd_some h
    have h := lt_some h
    refine k_ist K 28 0 (Nat.le_of_ble_eq_true rfl) (mS_28 cI cZ cC cG cB ad) rfl g5 dX3_turnPlank_26 ?_
    refine k_aload_n K dX3_turnPlank_27 1 rfl ?_
    refine k_get K 26 3 3 iX3_turnPlank_X3 (Nat.le_of_ble_eq_true rfl) ((mS_26 cI cZ cC cG cB ad) _) rfl (by decide) fX3_turnPlank_15 rfl dX3_turnPlank_28 ?_
    refine k_iload K dX3_turnPlank_31 0 rfl ?_
    refine k_dup2 K dX3_turnPlank_33 rfl rfl ?_
    obtain ⟨g7, h⟩ := gd_some h
    refine k_ild K 28 0 (Nat.le_of_ble_eq_true rfl) ((mS_28 cI cZ cC cG cB ad) _) rfl g7 dX3_turnPlank_34 ?_
    refine k_iconst (x := 1) K dX3_turnPlank_35 (by decide) ?_
    refine k_iload_n K dX3_turnPlank_36 4 rfl ?_
    obtain ⟨⟨r8, s9⟩, e10, h⟩ := bd_some h
    dsimp only at h
    refine k_callSi K (ctX2_facing e10) (va_cwS 1 K.ts gX3_turnPlank_X2_facing rfl rfl rfl hSX2_facing ⟨Nat.le_of_ble_eq_true rfl, Nat.le_of_ble_eq_true rfl⟩) rfl rfl (Nat.le_of_ble_eq_true rfl) dX3_turnPlank_37 ?_
    refine k_ishl K dX3_turnPlank_40 ?_
    refine k_ixor K dX3_turnPlank_41 ?_
    obtain ⟨g11, h⟩ := gd_some h
    have h := lt_some h
    refine k_ist K 28 0 (Nat.le_of_ble_eq_true rfl) (mS_28 cI cZ cC cG cB ad) rfl g11 dX3_turnPlank_42 ?_
    refine k_aload_n K dX3_turnPlank_43 1 rfl ?_
    refine k_dup K dX3_turnPlank_44 rfl ?_
    refine k_get K 26 3 0 iX3_turnPlank_X3 (Nat.le_of_ble_eq_true rfl) ((mS_26 cI cZ cC cG cB ad) _) rfl (by decide) fX3_turnPlank_42 rfl dX3_turnPlank_45 ?_
    refine k_aload_n K dX3_turnPlank_48 1 rfl ?_
    refine k_get K 26 3 3 iX3_turnPlank_X3 (Nat.le_of_ble_eq_true rfl) ((mS_26 cI cZ cC cG cB ad) _) rfl (by decide) fX3_turnPlank_15 rfl dX3_turnPlank_49 ?_
    refine k_iload_n K dX3_turnPlank_52 3 rfl ?_
    obtain ⟨g13, h⟩ := gd_some h
    refine k_ild K 28 0 (Nat.le_of_ble_eq_true rfl) ((mS_28 cI cZ cC cG cB ad) _) rfl g13 dX3_turnPlank_53 ?_
    refine k_iload_n K dX3_turnPlank_54 4 rfl ?_
    refine k_ishr K dX3_turnPlank_55 ?_
    refine k_iconst (x := 1) K dX3_turnPlank_56 (by decide) ?_
    refine k_iand K dX3_turnPlank_57 ?_
    refine k_if_eq (tgt := 65) K dX3_turnPlank_58 (by decide) (fun q => ?_) (fun q => ?_)
    · have h := if_t q h
      refine k_iconst (x := (-1)) K dX3_turnPlank_65 (by decide) ?_
      refine k_iadd K dX3_turnPlank_66 ?_
      have h := lt_some h
      refine k_putI K 26 3 0 tyX3 tyX3_ok nmX3 iX3_turnPlank_X3 (Nat.le_of_ble_eq_true rfl) ((mS_26 cI cZ cC cG cB ad) _) rfl (by decide) fX3_turnPlank_42 rfl (by decide +kernel) (Nat.le_of_ble_eq_true rfl) (pS_26_0 cI cZ cC cG cB ad _ _) dX3_turnPlank_67 ?_
      exact ret_v hR h dX3_turnPlank_70
    · have h := if_f q h
      refine k_iconst (x := 1) K dX3_turnPlank_61 (by decide) ?_
      refine k_goto (tgt := 66) K dX3_turnPlank_62 (by decide) ?_
      refine k_iadd K dX3_turnPlank_66 ?_
      have h := lt_some h
      refine k_putI K 26 3 0 tyX3 tyX3_ok nmX3 iX3_turnPlank_X3 (Nat.le_of_ble_eq_true rfl) ((mS_26 cI cZ cC cG cB ad) _) rfl (by decide) fX3_turnPlank_42 rfl (by decide +kernel) (Nat.le_of_ble_eq_true rfl) (pS_26_0 cI cZ cC cG cB ad _ _) dX3_turnPlank_67 ?_
      exact ret_v hR h dX3_turnPlank_70
  · have h := if_t q h
    exact ret_v hR h dX3_turnPlank_14
-- X3_changePlank (3, 84)
theorem iX3_changePlank_X3 : ∀ w ∈ wsX30, w ∈ wsX3_changePlank := fun _ h => List.mem_cons_of_mem _ (List.mem_append_left _ (List.mem_append_right _ h))
theorem fX3_changePlank_42 : Cond.fieldLink RX3 42 "SlopeCoins$Ground" "planks" "I" ∈ wsX3_changePlank := by decide +kernel
set_option maxRecDepth 100000 in
set_option maxHeartbeats 4000000 in
theorem ctX3_changePlank {l : Launch} {D : va_G} {cI cZ cC cG cB : ClassId} {ad : Nat → Nat} {v2 : Int32} {v3 : Int32} {σ : St} {res : (Int32 × St)} (h : mX3_changePlank v2 v3 σ = some res) : Ci l yX3_changePlank wsX3_changePlank 3 84 D vwCl (tysS cI cZ cC cG cB) nwS (mkS cI cZ cC cG cB ad) ad 75 [.ref (ad 26), .ref (ad 10), .int v2, .int v3] σ res := by
  refine c_int (cc := cX3_changePlank) (maxL := 4) (by decide) rfl (Nat.le_of_ble_eq_true rfl) fun a b hn K hR => ?_
  unfold mX3_changePlank at h
  have K : KS (GS l 3 84 D cI cZ cC cG cB ad a b (w_A ad 75)) cX3_changePlank RX3 wsX3_changePlank (some .int) := K
  have hn : x_n (GS l 3 84 D cI cZ cC cG cB ad a b (w_A ad 75)) = 4 := hn
  refine k_sub [0, 1, 2, 3] rfl ?_
  refine k_aload_n K dX3_changePlank_0 0 rfl ?_
  refine k_aload_n K dX3_changePlank_1 1 rfl ?_
  refine k_iload_n K dX3_changePlank_2 2 rfl ?_
  refine k_iload_n K dX3_changePlank_3 3 rfl ?_
  obtain ⟨⟨r1, s2⟩, e3, h⟩ := bd_some h
  dsimp only at h
  refine k_callVv K 26 3 (Nat.le_of_ble_eq_true rfl) ((mS_26 cI cZ cC cG cB ad) _) rfl (ctX3_turnPlank e3) (cwV 3 K.ts gX3_changePlank_X3_turnPlank rfl rfl rfl hVX3_turnPlank ⟨Nat.le_of_ble_eq_true rfl, Nat.le_of_ble_eq_true rfl⟩) rfl rfl (Nat.le_of_ble_eq_true rfl) dX3_changePlank_4 ?_
  refine k_aload_n K dX3_changePlank_7 0 rfl ?_
  refine k_iconst (x := 2) K dX3_changePlank_8 (by decide) ?_
  refine k_iload_n K dX3_changePlank_9 2 rfl ?_
  refine k_iload_n K dX3_changePlank_10 3 rfl ?_
  refine k_iconst (x := 0) K dX3_changePlank_11 (by decide) ?_
  obtain ⟨⟨r4, s5⟩, e6, h⟩ := bd_some h
  dsimp only at h
  refine k_callVv K 26 3 (Nat.le_of_ble_eq_true rfl) ((mS_26 cI cZ cC cG cB ad) _) rfl (ctX3_note e6) (cwV 4 K.ts gX3_changePlank_X3_note rfl rfl rfl hVX3_note ⟨Nat.le_of_ble_eq_true rfl, Nat.le_of_ble_eq_true rfl⟩) rfl rfl (Nat.le_of_ble_eq_true rfl) dX3_changePlank_12 ?_
  refine k_aload_n K dX3_changePlank_15 0 rfl ?_
  refine k_get K 26 3 0 iX3_changePlank_X3 (Nat.le_of_ble_eq_true rfl) ((mS_26 cI cZ cC cG cB ad) _) rfl (by decide) fX3_changePlank_42 rfl dX3_changePlank_16 ?_
  exact ret_i hR h dX3_changePlank_19 trivial
-- X3_moveCobble (3, 84)
theorem iX3_moveCobble_X3 : ∀ w ∈ wsX30, w ∈ wsX3_moveCobble := fun _ h => List.mem_cons_of_mem _ (List.mem_append_right _ h)
theorem fX3_moveCobble_9 : Cond.fieldLink RX3 9 "SlopeCoins$Ground" "height" "[I" ∈ wsX3_moveCobble := by decide +kernel
set_option maxRecDepth 100000 in
set_option maxHeartbeats 4000000 in
theorem ctX3_moveCobble {l : Launch} {D : va_G} {cI cZ cC cG cB : ClassId} {ad : Nat → Nat} {v1 : Int32} {v2 : Int32} {σ : St} {res : (Int32 × St)} (h : mX3_moveCobble v1 v2 σ = some res) : Ci l yX3_moveCobble wsX3_moveCobble 3 84 D vwCl (tysS cI cZ cC cG cB) nwS (mkS cI cZ cC cG cB ad) ad 75 [.ref (ad 26), .int v1, .int v2] σ res := by
  refine c_int (cc := cX3_moveCobble) (maxL := 3) (by decide) rfl (Nat.le_of_ble_eq_true rfl) fun a b hn K hR => ?_
  unfold mX3_moveCobble at h
  have K : KS (GS l 3 84 D cI cZ cC cG cB ad a b (w_A ad 75)) cX3_moveCobble RX3 wsX3_moveCobble (some .int) := K
  have hn : x_n (GS l 3 84 D cI cZ cC cG cB ad a b (w_A ad 75)) = 3 := hn
  refine k_sub [0, 1, 2] rfl ?_
  refine k_aload_n K dX3_moveCobble_0 0 rfl ?_
  refine k_get K 26 3 2 iX3_moveCobble_X3 (Nat.le_of_ble_eq_true rfl) ((mS_26 cI cZ cC cG cB ad) _) rfl (by decide) fX3_moveCobble_9 rfl dX3_moveCobble_1 ?_
  refine k_iload_n K dX3_moveCobble_4 1 rfl ?_
  refine k_dup2 K dX3_moveCobble_5 rfl rfl ?_
  obtain ⟨g1, h⟩ := gd_some h
  refine k_ild K 27 0 (Nat.le_of_ble_eq_true rfl) ((mS_27 cI cZ cC cG cB ad) _) rfl g1 dX3_moveCobble_6 ?_
  refine k_iload_n K dX3_moveCobble_7 2 rfl ?_
  refine k_iadd K dX3_moveCobble_8 ?_
  obtain ⟨g2, h⟩ := gd_some h
  have h := lt_some h
  refine k_ist K 27 0 (Nat.le_of_ble_eq_true rfl) (mS_27 cI cZ cC cG cB ad) rfl g2 dX3_moveCobble_9 ?_
  refine k_aload_n K dX3_moveCobble_10 0 rfl ?_
  refine k_iconst (x := 3) K dX3_moveCobble_11 (by decide) ?_
  refine k_iload_n K dX3_moveCobble_12 1 rfl ?_
  refine k_iload_n K dX3_moveCobble_13 2 rfl ?_
  refine k_iconst (x := 0) K dX3_moveCobble_14 (by decide) ?_
  obtain ⟨⟨r4, s5⟩, e6, h⟩ := bd_some h
  dsimp only at h
  refine k_callVv K 26 3 (Nat.le_of_ble_eq_true rfl) ((mS_26 cI cZ cC cG cB ad) _) rfl (ctX3_note e6) (cwV 4 K.ts gX3_moveCobble_X3_note rfl rfl rfl hVX3_note ⟨Nat.le_of_ble_eq_true rfl, Nat.le_of_ble_eq_true rfl⟩) rfl rfl (Nat.le_of_ble_eq_true rfl) dX3_moveCobble_15 ?_
  refine k_aload_n K dX3_moveCobble_18 0 rfl ?_
  refine k_get K 26 3 2 iX3_moveCobble_X3 (Nat.le_of_ble_eq_true rfl) ((mS_26 cI cZ cC cG cB ad) _) rfl (by decide) fX3_moveCobble_9 rfl dX3_moveCobble_19 ?_
  refine k_iload_n K dX3_moveCobble_22 1 rfl ?_
  obtain ⟨g7, h⟩ := gd_some h
  refine k_ild K 27 0 (Nat.le_of_ble_eq_true rfl) ((mS_27 cI cZ cC cG cB ad) _) rfl g7 dX3_moveCobble_23 ?_
  exact ret_i hR h dX3_moveCobble_24 trivial
-- X3_sweepAway (3, 84)
theorem iX3_sweepAway_X3 : ∀ w ∈ wsX30, w ∈ wsX3_sweepAway := fun _ h => List.mem_cons_of_mem _ (List.mem_append_right _ h)
theorem fX3_sweepAway_18 : Cond.fieldLink RX3 18 "SlopeCoins$Ground" "lie" "[I" ∈ wsX3_sweepAway := by decide +kernel
theorem fX3_sweepAway_21 : Cond.fieldLink RX3 21 "SlopeCoins$Ground" "lieWorth" "[I" ∈ wsX3_sweepAway := by decide +kernel
set_option maxRecDepth 100000 in
set_option maxHeartbeats 4000000 in
theorem ctX3_sweepAway {l : Launch} {D : va_G} {cI cZ cC cG cB : ClassId} {ad : Nat → Nat} {v1 : Int32} {σ : St} {res : (Int32 × St)} (h : mX3_sweepAway v1 σ = some res) : Ci l yX3_sweepAway wsX3_sweepAway 3 84 D vwCl (tysS cI cZ cC cG cB) nwS (mkS cI cZ cC cG cB ad) ad 75 [.ref (ad 26), .int v1] σ res := by
  refine c_int (cc := cX3_sweepAway) (maxL := 3) (by decide) rfl (Nat.le_of_ble_eq_true rfl) fun a b hn K hR => ?_
  unfold mX3_sweepAway at h
  have K : KS (GS l 3 84 D cI cZ cC cG cB ad a b (w_A ad 75)) cX3_sweepAway RX3 wsX3_sweepAway (some .int) := K
  have hn : x_n (GS l 3 84 D cI cZ cC cG cB ad a b (w_A ad 75)) = 3 := hn
  refine k_sub [0, 1] rfl ?_
  refine k_aload_n K dX3_sweepAway_0 0 rfl ?_
  refine k_get K 26 3 5 iX3_sweepAway_X3 (Nat.le_of_ble_eq_true rfl) ((mS_26 cI cZ cC cG cB ad) _) rfl (by decide) fX3_sweepAway_21 rfl dX3_sweepAway_1 ?_
  refine k_iload_n K dX3_sweepAway_4 1 rfl ?_
  obtain ⟨g1, h⟩ := gd_some h
  refine k_ild K 30 0 (Nat.le_of_ble_eq_true rfl) ((mS_30 cI cZ cC cG cB ad) _) rfl g1 dX3_sweepAway_5 ?_
  have h := lt_some h
  refine k_istore_n (lv' := [(2, _), (0, _), (1, _)]) K dX3_sweepAway_6 (by rw [hn]; decide) rfl ?_
  refine k_aload_n K dX3_sweepAway_7 1 rfl ?_
  refine k_iconst (x := 4) K dX3_sweepAway_8 (by decide) ?_
  refine k_iload_n K dX3_sweepAway_9 2 rfl ?_
  refine k_aload_n K dX3_sweepAway_10 1 rfl ?_
  refine k_get K 26 3 4 iX3_sweepAway_X3 (Nat.le_of_ble_eq_true rfl) ((mS_26 cI cZ cC cG cB ad) _) rfl (by decide) fX3_sweepAway_18 rfl dX3_sweepAway_11 ?_
  refine k_iload_n K dX3_sweepAway_14 2 rfl ?_
  obtain ⟨g3, h⟩ := gd_some h
  refine k_ild K 29 0 (Nat.le_of_ble_eq_true rfl) ((mS_29 cI cZ cC cG cB ad) _) rfl g3 dX3_sweepAway_15 ?_
  refine k_iload_n K dX3_sweepAway_16 0 rfl ?_
  obtain ⟨⟨r4, s5⟩, e6, h⟩ := bd_some h
  dsimp only at h
  refine k_callVv K 26 3 (Nat.le_of_ble_eq_true rfl) ((mS_26 cI cZ cC cG cB ad) _) rfl (ctX3_note e6) (cwV 4 K.ts gX3_sweepAway_X3_note rfl rfl rfl hVX3_note ⟨Nat.le_of_ble_eq_true rfl, Nat.le_of_ble_eq_true rfl⟩) rfl rfl (Nat.le_of_ble_eq_true rfl) dX3_sweepAway_17 ?_
  refine k_aload_n K dX3_sweepAway_20 1 rfl ?_
  refine k_iconst (x := 0) K dX3_sweepAway_21 (by decide) ?_
  refine k_iload_n K dX3_sweepAway_22 2 rfl ?_
  refine k_aload_n K dX3_sweepAway_23 1 rfl ?_
  refine k_get K 26 3 4 iX3_sweepAway_X3 (Nat.le_of_ble_eq_true rfl) ((mS_26 cI cZ cC cG cB ad) _) rfl (by decide) fX3_sweepAway_18 rfl dX3_sweepAway_24 ?_
  refine k_iload_n K dX3_sweepAway_27 2 rfl ?_
  obtain ⟨g7, h⟩ := gd_some h
  refine k_ild K 29 0 (Nat.le_of_ble_eq_true rfl) ((mS_29 cI cZ cC cG cB ad) _) rfl g7 dX3_sweepAway_28 ?_
  refine k_ineg K dX3_sweepAway_29 ?_
  refine k_iload_n K dX3_sweepAway_30 0 rfl ?_
  refine k_ineg K dX3_sweepAway_31 ?_
  obtain ⟨⟨r8, s9⟩, e10, h⟩ := bd_some h
  dsimp only at h
  refine k_callVv K 26 3 (Nat.le_of_ble_eq_true rfl) ((mS_26 cI cZ cC cG cB ad) _) rfl (ctX3_addCoins e10) (cwV 4 K.ts gX3_sweepAway_X3_addCoins rfl rfl rfl hVX3_addCoins ⟨Nat.le_of_ble_eq_true rfl, Nat.le_of_ble_eq_true rfl⟩) rfl rfl (Nat.le_of_ble_eq_true rfl) dX3_sweepAway_32 ?_
  refine k_iload_n K dX3_sweepAway_35 0 rfl ?_
  exact ret_i hR h dX3_sweepAway_36 trivial
-- X3_takeBack (2, 46)
theorem iX3_takeBack_X3 : ∀ w ∈ wsX30, w ∈ wsX3_takeBack := fun _ h => List.mem_cons_of_mem _ (List.mem_append_left _ (List.mem_append_right _ h))
theorem fX3_takeBack_9 : Cond.fieldLink RX3 9 "SlopeCoins$Ground" "height" "[I" ∈ wsX3_takeBack := by decide +kernel
theorem fX3_takeBack_30 : Cond.fieldLink RX3 30 "SlopeCoins$Ground" "deed" "[I" ∈ wsX3_takeBack := by decide +kernel
theorem fX3_takeBack_33 : Cond.fieldLink RX3 33 "SlopeCoins$Ground" "deedAt" "[I" ∈ wsX3_takeBack := by decide +kernel
theorem fX3_takeBack_36 : Cond.fieldLink RX3 36 "SlopeCoins$Ground" "deedMuch" "[I" ∈ wsX3_takeBack := by decide +kernel
theorem fX3_takeBack_39 : Cond.fieldLink RX3 39 "SlopeCoins$Ground" "deedWorth" "[I" ∈ wsX3_takeBack := by decide +kernel
theorem fX3_takeBack_46 : Cond.fieldLink RX3 46 "SlopeCoins$Ground" "deeds" "I" ∈ wsX3_takeBack := by decide +kernel
set_option maxRecDepth 100000 in
set_option maxHeartbeats 4000000 in
theorem ctX3_takeBack {l : Launch} {D : va_G} {cI cZ cC cG cB : ClassId} {ad : Nat → Nat} {σ : St} {res : (Int32 × St)} (h : mX3_takeBack σ = some res) : Ci l yX3_takeBack wsX3_takeBack 2 46 D vwCl (tysS cI cZ cC cG cB) nwS (mkS cI cZ cC cG cB ad) ad 75 [.ref (ad 26), .ref (ad 10)] σ res := by
  refine c_int (cc := cX3_takeBack) (maxL := 5) (by decide) rfl (Nat.le_of_ble_eq_true rfl) fun a b hn K hR => ?_
  unfold mX3_takeBack at h
  have K : KS (GS l 2 46 D cI cZ cC cG cB ad a b (w_A ad 75)) cX3_takeBack RX3 wsX3_takeBack (some .int) := K
  have hn : x_n (GS l 2 46 D cI cZ cC cG cB ad a b (w_A ad 75)) = 5 := hn
  refine k_sub [0, 1] rfl ?_
  refine k_aload_n K dX3_takeBack_0 0 rfl ?_
  refine k_get K 26 3 1 iX3_takeBack_X3 (Nat.le_of_ble_eq_true rfl) ((mS_26 cI cZ cC cG cB ad) _) rfl (by decide) fX3_takeBack_46 rfl dX3_takeBack_1 ?_
  refine k_iconst (x := 1) K dX3_takeBack_4 (by decide) ?_
  refine k_icmp_ge (tgt := 11) K dX3_takeBack_5 (by decide) (fun q => ?_) (fun q => ?_)
  · have h := if_f q h
    refine k_aload_n K dX3_takeBack_11 0 rfl ?_
    refine k_dup K dX3_takeBack_12 rfl ?_
    refine k_get K 26 3 1 iX3_takeBack_X3 (Nat.le_of_ble_eq_true rfl) ((mS_26 cI cZ cC cG cB ad) _) rfl (by decide) fX3_takeBack_46 rfl dX3_takeBack_13 ?_
    refine k_iconst (x := 1) K dX3_takeBack_16 (by decide) ?_
    refine k_isub K dX3_takeBack_17 ?_
    have h := lt_some h
    refine k_putI K 26 3 1 tyX3 tyX3_ok nmX3 iX3_takeBack_X3 (Nat.le_of_ble_eq_true rfl) ((mS_26 cI cZ cC cG cB ad) _) rfl (by decide) fX3_takeBack_46 rfl (by decide +kernel) (Nat.le_of_ble_eq_true rfl) (pS_26_1 cI cZ cC cG cB ad _ _) dX3_takeBack_18 ?_
    refine k_aload_n K dX3_takeBack_21 0 rfl ?_
    refine k_get K 26 3 9 iX3_takeBack_X3 (Nat.le_of_ble_eq_true rfl) ((mS_26 cI cZ cC cG cB ad) _) rfl (by decide) fX3_takeBack_33 rfl dX3_takeBack_22 ?_
    refine k_aload_n K dX3_takeBack_25 0 rfl ?_
    refine k_get K 26 3 1 iX3_takeBack_X3 (Nat.le_of_ble_eq_true rfl) ((mS_26 cI cZ cC cG cB ad) _) rfl (by decide) fX3_takeBack_46 rfl dX3_takeBack_26 ?_
    obtain ⟨g2, h⟩ := gd_some h
    refine k_ild K 34 0 (Nat.le_of_ble_eq_true rfl) ((mS_34 cI cZ cC cG cB ad) _) rfl g2 dX3_takeBack_29 ?_
    have h := lt_some h
    refine k_istore_n (lv' := [(2, _), (0, _), (1, _)]) K dX3_takeBack_30 (by rw [hn]; decide) rfl ?_
    refine k_aload_n K dX3_takeBack_31 1 rfl ?_
    refine k_get K 26 3 10 iX3_takeBack_X3 (Nat.le_of_ble_eq_true rfl) ((mS_26 cI cZ cC cG cB ad) _) rfl (by decide) fX3_takeBack_36 rfl dX3_takeBack_32 ?_
    refine k_aload_n K dX3_takeBack_35 1 rfl ?_
    refine k_get K 26 3 1 iX3_takeBack_X3 (Nat.le_of_ble_eq_true rfl) ((mS_26 cI cZ cC cG cB ad) _) rfl (by decide) fX3_takeBack_46 rfl dX3_takeBack_36 ?_
    obtain ⟨g4, h⟩ := gd_some h
    refine k_ild K 35 0 (Nat.le_of_ble_eq_true rfl) ((mS_35 cI cZ cC cG cB ad) _) rfl g4 dX3_takeBack_39 ?_
    have h := lt_some h
    refine k_istore_n (lv' := [(3, _), (2, _), (0, _), (1, _)]) K dX3_takeBack_40 (by rw [hn]; decide) rfl ?_
    refine k_aload_n K dX3_takeBack_41 2 rfl ?_
    refine k_get K 26 3 11 iX3_takeBack_X3 (Nat.le_of_ble_eq_true rfl) ((mS_26 cI cZ cC cG cB ad) _) rfl (by decide) fX3_takeBack_39 rfl dX3_takeBack_42 ?_
    refine k_aload_n K dX3_takeBack_45 2 rfl ?_
    refine k_get K 26 3 1 iX3_takeBack_X3 (Nat.le_of_ble_eq_true rfl) ((mS_26 cI cZ cC cG cB ad) _) rfl (by decide) fX3_takeBack_46 rfl dX3_takeBack_46 ?_
    obtain ⟨g6, h⟩ := gd_some h
    refine k_ild K 36 0 (Nat.le_of_ble_eq_true rfl) ((mS_36 cI cZ cC cG cB ad) _) rfl g6 dX3_takeBack_49 ?_
    have h := lt_some h
    refine k_istore (lv' := [(4, _), (3, _), (2, _), (0, _), (1, _)]) K dX3_takeBack_50 (by rw [hn]; decide) rfl ?_
    refine k_aload_n K dX3_takeBack_52 3 rfl ?_
    refine k_get K 26 3 8 iX3_takeBack_X3 (Nat.le_of_ble_eq_true rfl) ((mS_26 cI cZ cC cG cB ad) _) rfl (by decide) fX3_takeBack_30 rfl dX3_takeBack_53 ?_
    refine k_aload_n K dX3_takeBack_56 3 rfl ?_
    refine k_get K 26 3 1 iX3_takeBack_X3 (Nat.le_of_ble_eq_true rfl) ((mS_26 cI cZ cC cG cB ad) _) rfl (by decide) fX3_takeBack_46 rfl dX3_takeBack_57 ?_
    obtain ⟨g8, h⟩ := gd_some h
    refine k_ild K 33 0 (Nat.le_of_ble_eq_true rfl) ((mS_33 cI cZ cC cG cB ad) _) rfl g8 dX3_takeBack_60 ?_
    refine k_case (y := 2) (fun q0 => ?_) (fun q0 => ?_)
    · have h := if_t q0 h
      refine k_tableIn (off := 27) (tgt := 88) K dX3_takeBack_61 (by rw [q0]; decide) (by rw [q0]; decide) (by rw [q0]; rfl) (by decide) ?_
      refine k_aload_n K dX3_takeBack_88 3 rfl ?_
      refine k_aload_n K dX3_takeBack_89 4 rfl ?_
      refine k_iload_n K dX3_takeBack_90 2 rfl ?_
      refine k_iload_n K dX3_takeBack_91 1 rfl ?_
      obtain ⟨⟨r9, s10⟩, e11, h⟩ := bd_some h
      dsimp only at h
      refine k_callVv K 26 3 (Nat.le_of_ble_eq_true rfl) ((mS_26 cI cZ cC cG cB ad) _) rfl (ctX3_turnPlank e11) (cwV 3 K.ts gX3_takeBack_X3_turnPlank rfl rfl rfl hVX3_turnPlank ⟨Nat.le_of_ble_eq_true rfl, Nat.le_of_ble_eq_true rfl⟩) rfl rfl (Nat.le_of_ble_eq_true rfl) dX3_takeBack_92 ?_
      refine k_goto (tgt := 142) K dX3_takeBack_95 (by decide) ?_
      refine k_aload_n K dX3_takeBack_142 3 rfl ?_
      refine k_get K 26 3 1 iX3_takeBack_X3 (Nat.le_of_ble_eq_true rfl) ((mS_26 cI cZ cC cG cB ad) _) rfl (by decide) fX3_takeBack_46 rfl dX3_takeBack_143 ?_
      exact ret_i hR h dX3_takeBack_146 trivial
    · have h := if_f q0 h
      refine k_case (y := 3) (fun q1 => ?_) (fun q1 => ?_)
      · have h := if_t q1 h
        refine k_tableIn (off := 37) (tgt := 98) K dX3_takeBack_61 (by rw [q1]; decide) (by rw [q1]; decide) (by rw [q1]; rfl) (by decide) ?_
        refine k_aload_n K dX3_takeBack_98 3 rfl ?_
        refine k_get K 26 3 2 iX3_takeBack_X3 (Nat.le_of_ble_eq_true rfl) ((mS_26 cI cZ cC cG cB ad) _) rfl (by decide) fX3_takeBack_9 rfl dX3_takeBack_99 ?_
        refine k_iload_n K dX3_takeBack_102 2 rfl ?_
        refine k_dup2 K dX3_takeBack_103 rfl rfl ?_
        obtain ⟨g12, h⟩ := gd_some h
        refine k_ild K 27 0 (Nat.le_of_ble_eq_true rfl) ((mS_27 cI cZ cC cG cB ad) _) rfl g12 dX3_takeBack_104 ?_
        refine k_iload_n K dX3_takeBack_105 1 rfl ?_
        refine k_isub K dX3_takeBack_106 ?_
        obtain ⟨g13, h⟩ := gd_some h
        have h := lt_some h
        refine k_ist K 27 0 (Nat.le_of_ble_eq_true rfl) (mS_27 cI cZ cC cG cB ad) rfl g13 dX3_takeBack_107 ?_
        refine k_goto (tgt := 142) K dX3_takeBack_108 (by decide) ?_
        refine k_aload_n K dX3_takeBack_142 3 rfl ?_
        refine k_get K 26 3 1 iX3_takeBack_X3 (Nat.le_of_ble_eq_true rfl) ((mS_26 cI cZ cC cG cB ad) _) rfl (by decide) fX3_takeBack_46 rfl dX3_takeBack_143 ?_
        exact ret_i hR h dX3_takeBack_146 trivial
      · have h := if_f q1 h
        refine k_case (y := 4) (fun q2 => ?_) (fun q2 => ?_)
        · have h := if_t q2 h
          refine k_tableIn (off := 50) (tgt := 111) K dX3_takeBack_61 (by rw [q2]; decide) (by rw [q2]; decide) (by rw [q2]; rfl) (by decide) ?_
          refine k_aload_n K dX3_takeBack_111 3 rfl ?_
          refine k_iconst (x := 0) K dX3_takeBack_112 (by decide) ?_
          refine k_iload_n K dX3_takeBack_113 2 rfl ?_
          refine k_iload_n K dX3_takeBack_114 1 rfl ?_
          refine k_iload K dX3_takeBack_115 0 rfl ?_
          obtain ⟨⟨r15, s16⟩, e17, h⟩ := bd_some h
          dsimp only at h
          refine k_callVv K 26 3 (Nat.le_of_ble_eq_true rfl) ((mS_26 cI cZ cC cG cB ad) _) rfl (ctX3_addCoins e17) (cwV 4 K.ts gX3_takeBack_X3_addCoins rfl rfl rfl hVX3_addCoins ⟨Nat.le_of_ble_eq_true rfl, Nat.le_of_ble_eq_true rfl⟩) rfl rfl (Nat.le_of_ble_eq_true rfl) dX3_takeBack_117 ?_
          refine k_goto (tgt := 142) K dX3_takeBack_120 (by decide) ?_
          refine k_aload_n K dX3_takeBack_142 3 rfl ?_
          refine k_get K 26 3 1 iX3_takeBack_X3 (Nat.le_of_ble_eq_true rfl) ((mS_26 cI cZ cC cG cB ad) _) rfl (by decide) fX3_takeBack_46 rfl dX3_takeBack_143 ?_
          exact ret_i hR h dX3_takeBack_146 trivial
        · have h := if_f q2 h
          refine k_tableOut (tgt := 123) K dX3_takeBack_61 (sw_outL3 q0 q1 q2) (by decide) ?_
          refine k_aload_n K dX3_takeBack_123 3 rfl ?_
          refine k_aload_n K dX3_takeBack_124 3 rfl ?_
          refine k_get K 26 3 8 iX3_takeBack_X3 (Nat.le_of_ble_eq_true rfl) ((mS_26 cI cZ cC cG cB ad) _) rfl (by decide) fX3_takeBack_30 rfl dX3_takeBack_125 ?_
          refine k_aload_n K dX3_takeBack_128 3 rfl ?_
          refine k_get K 26 3 1 iX3_takeBack_X3 (Nat.le_of_ble_eq_true rfl) ((mS_26 cI cZ cC cG cB ad) _) rfl (by decide) fX3_takeBack_46 rfl dX3_takeBack_129 ?_
          obtain ⟨g18, h⟩ := gd_some h
          refine k_ild K 33 0 (Nat.le_of_ble_eq_true rfl) ((mS_33 cI cZ cC cG cB ad) _) rfl g18 dX3_takeBack_132 ?_
          refine k_iload_n K dX3_takeBack_133 2 rfl ?_
          refine k_iload_n K dX3_takeBack_134 1 rfl ?_
          refine k_ineg K dX3_takeBack_135 ?_
          refine k_iload K dX3_takeBack_136 0 rfl ?_
          refine k_ineg K dX3_takeBack_138 ?_
          obtain ⟨⟨r19, s20⟩, e21, h⟩ := bd_some h
          dsimp only at h
          refine k_callVv K 26 3 (Nat.le_of_ble_eq_true rfl) ((mS_26 cI cZ cC cG cB ad) _) rfl (ctX3_addCoins e21) (cwV 4 K.ts gX3_takeBack_X3_addCoins rfl rfl rfl hVX3_addCoins ⟨Nat.le_of_ble_eq_true rfl, Nat.le_of_ble_eq_true rfl⟩) rfl rfl (Nat.le_of_ble_eq_true rfl) dX3_takeBack_139 ?_
          refine k_aload_n K dX3_takeBack_142 3 rfl ?_
          refine k_get K 26 3 1 iX3_takeBack_X3 (Nat.le_of_ble_eq_true rfl) ((mS_26 cI cZ cC cG cB ad) _) rfl (by decide) fX3_takeBack_46 rfl dX3_takeBack_143 ?_
          exact ret_i hR h dX3_takeBack_146 trivial
  · have h := if_t q h
    refine k_bipush (x := (-2)) K dX3_takeBack_8 (by decide) ?_
    exact ret_i hR h dX3_takeBack_10 trivial
-- X8_wayDown (0, 0)
theorem iX8_wayDown_X2 : ∀ w ∈ wsX20, w ∈ wsX8_wayDown := fun _ h => List.mem_cons_of_mem _ (List.mem_append_left _ (List.mem_append_left _ (List.mem_append_right _ h)))
theorem iX8_wayDown_X3 : ∀ w ∈ wsX30, w ∈ wsX8_wayDown := fun _ h => List.mem_cons_of_mem _ (List.mem_append_right _ h)
theorem iX8_wayDown_X8 : ∀ w ∈ wsX80, w ∈ wsX8_wayDown := fun _ h => List.mem_cons_of_mem _ (List.mem_append_left _ (List.mem_append_right _ h))
theorem fX8_wayDown_27 : Cond.fieldLink RX8 27 "SlopeCoins$Roll" "at" "I" ∈ wsX8_wayDown := by decide +kernel
theorem fX8_wayDown_56 : Cond.fieldLink RX8 56 "SlopeCoins$City" "kerbs" "[I" ∈ wsX8_wayDown := by decide +kernel
theorem fX8_wayDown_59 : Cond.fieldLink RX8 59 "SlopeCoins$Ground" "plank" "[I" ∈ wsX8_wayDown := by decide +kernel
theorem fX8_wayDown_64 : Cond.fieldLink RX8 64 "SlopeCoins$Ground" "height" "[I" ∈ wsX8_wayDown := by decide +kernel
theorem fX8_wayDown_67 : Cond.fieldLink RX8 67 "SlopeCoins$City" "beside" "[I" ∈ wsX8_wayDown := by decide +kernel
set_option maxRecDepth 100000 in
set_option maxHeartbeats 4000000 in
theorem wX8_wayDown_147 {l : Launch} {D : va_G} {cI cZ cC cG cB : ClassId} {ad : Nat → Nat} {a : Program × Env × State × MethodId} {b : Array Value × List Frame × Method × Code × (State → Prop) × Nat} {A : Nat → Prop} {r : Nat} {rc : Int32 → Int32 → Int32 → Int32 → Int32 → Int32 → St → Option (Int32 × St)} (K : KS (GS l 0 0 D cI cZ cC cG cB ad a b A) cX8_wayDown RX8 wsX8_wayDown (some .int)) (hn : x_n (GS l 0 0 D cI cZ cC cG cB ad a b A) = 13) {res : (Int32 × St)} (hR : HRi (GS l 0 0 D cI cZ cC cG cB ad a b A) cX8_wayDown tb res) (hr : isR r) (hrc : ∀ (v3 : Int32) (v4 : Int32) (v5 : Int32) (v6 : Int32) (v7 : Int32) (v8 : Int32) (σ : St), rc v3 v4 v5 v6 v7 v8 σ = some res → Wk (GS l 0 0 D cI cZ cC cG cB ad a b A) 38 [(0, .ref (ad r)), (1, .ref (ad 10)), (2, .ref (ad 26)), (3, .int v3), (4, .int v4), (5, .int v5), (6, .int v6), (7, .int v7), (8, .int v8)] [] σ) : ∀ (v3 : Int32), ∀ (v4 : Int32), ∀ (v5 : Int32), ∀ (v6 : Int32), ∀ (v7 : Int32), ∀ (v8 : Int32), ∀ (σ : St), mX8_wayDown_147 r rc v3 v4 v5 v6 v7 v8 σ = some res → Wk (GS l 0 0 D cI cZ cC cG cB ad a b A) 147 [(0, .ref (ad r)), (1, .ref (ad 10)), (2, .ref (ad 26)), (3, .int v3), (4, .int v4), (5, .int v5), (6, .int v6), (7, .int v7), (8, .int v8)] [] σ := by
  intro v3 v4 v5 v6 v7 v8 σ h
  unfold mX8_wayDown_147 at h
  have h := lt_some h
  refine k_iinc (lv' := [(8, _), (0, _), (1, _), (2, _), (3, _), (4, _), (5, _), (6, _), (7, _)]) K dX8_wayDown_147 8 rfl (v := _ + 1) (by rfl) (by rw [hn]; decide) rfl ?_
  refine k_goto (tgt := 38) K dX8_wayDown_150 (by decide) ?_
  exact k_sub [1, 2, 3, 4, 5, 6, 7, 8, 0] rfl (hrc _ _ _ _ _ _ _ h)
set_option maxRecDepth 100000 in
set_option maxHeartbeats 4000000 in
theorem wX8_wayDown_139 {l : Launch} {D : va_G} {cI cZ cC cG cB : ClassId} {ad : Nat → Nat} {a : Program × Env × State × MethodId} {b : Array Value × List Frame × Method × Code × (State → Prop) × Nat} {A : Nat → Prop} {r : Nat} {rc : Int32 → Int32 → Int32 → Int32 → Int32 → Int32 → St → Option (Int32 × St)} (K : KS (GS l 0 0 D cI cZ cC cG cB ad a b A) cX8_wayDown RX8 wsX8_wayDown (some .int)) (hn : x_n (GS l 0 0 D cI cZ cC cG cB ad a b A) = 13) {res : (Int32 × St)} (hR : HRi (GS l 0 0 D cI cZ cC cG cB ad a b A) cX8_wayDown tb res) (hr : isR r) (hrc : ∀ (v3 : Int32) (v4 : Int32) (v5 : Int32) (v6 : Int32) (v7 : Int32) (v8 : Int32) (σ : St), rc v3 v4 v5 v6 v7 v8 σ = some res → Wk (GS l 0 0 D cI cZ cC cG cB ad a b A) 38 [(0, .ref (ad r)), (1, .ref (ad 10)), (2, .ref (ad 26)), (3, .int v3), (4, .int v4), (5, .int v5), (6, .int v6), (7, .int v7), (8, .int v8)] [] σ) : ∀ (v3 : Int32), ∀ (v4 : Int32), ∀ (v5 : Int32), ∀ (v8 : Int32), ∀ (v9 : Int32), ∀ (v11 : Int32), ∀ (σ : St), mX8_wayDown_139 r rc v3 v4 v5 v8 v9 v11 σ = some res → Wk (GS l 0 0 D cI cZ cC cG cB ad a b A) 139 [(0, .ref (ad r)), (1, .ref (ad 10)), (2, .ref (ad 26)), (3, .int v3), (4, .int v4), (5, .int v5), (8, .int v8), (9, .int v9), (11, .int v11)] [] σ := by
  intro v3 v4 v5 v8 v9 v11 σ h
  unfold mX8_wayDown_139 at h
  refine k_iload K dX8_wayDown_139 8 rfl ?_
  refine k_istore (lv' := [(6, _), (0, _), (1, _), (2, _), (3, _), (4, _), (5, _), (8, _), (9, _), (11, _)]) K dX8_wayDown_141 (by rw [hn]; decide) rfl ?_
  refine k_iload K dX8_wayDown_143 8 rfl ?_
  refine k_istore (lv' := [(7, _), (6, _), (0, _), (1, _), (2, _), (3, _), (4, _), (5, _), (8, _), (9, _), (11, _)]) K dX8_wayDown_145 (by rw [hn]; decide) rfl ?_
  exact k_sub [2, 3, 4, 5, 6, 7, 1, 0, 8] rfl (wX8_wayDown_147 K hn hR hr hrc _ _ _ _ _ _ _ h)
set_option maxRecDepth 100000 in
set_option maxHeartbeats 4000000 in
theorem wX8_wayDown_125 {l : Launch} {D : va_G} {cI cZ cC cG cB : ClassId} {ad : Nat → Nat} {a : Program × Env × State × MethodId} {b : Array Value × List Frame × Method × Code × (State → Prop) × Nat} {A : Nat → Prop} {r : Nat} {rc : Int32 → Int32 → Int32 → Int32 → Int32 → Int32 → St → Option (Int32 × St)} (K : KS (GS l 0 0 D cI cZ cC cG cB ad a b A) cX8_wayDown RX8 wsX8_wayDown (some .int)) (hn : x_n (GS l 0 0 D cI cZ cC cG cB ad a b A) = 13) {res : (Int32 × St)} (hR : HRi (GS l 0 0 D cI cZ cC cG cB ad a b A) cX8_wayDown tb res) (hr : isR r) (hrc : ∀ (v3 : Int32) (v4 : Int32) (v5 : Int32) (v6 : Int32) (v7 : Int32) (v8 : Int32) (σ : St), rc v3 v4 v5 v6 v7 v8 σ = some res → Wk (GS l 0 0 D cI cZ cC cG cB ad a b A) 38 [(0, .ref (ad r)), (1, .ref (ad 10)), (2, .ref (ad 26)), (3, .int v3), (4, .int v4), (5, .int v5), (6, .int v6), (7, .int v7), (8, .int v8)] [] σ) : ∀ (v3 : Int32), ∀ (v4 : Int32), ∀ (v5 : Int32), ∀ (v6 : Int32), ∀ (v7 : Int32), ∀ (v8 : Int32), ∀ (v9 : Int32), ∀ (v11 : Int32), ∀ (t0 : Int32), ∀ (σ : St), mX8_wayDown_125 r rc v3 v4 v5 v6 v7 v8 v9 v11 t0 σ = some res → Wk (GS l 0 0 D cI cZ cC cG cB ad a b A) 125 [(0, .ref (ad r)), (1, .ref (ad 10)), (2, .ref (ad 26)), (3, .int v3), (4, .int v4), (5, .int v5), (6, .int v6), (7, .int v7), (8, .int v8), (9, .int v9), (11, .int v11)] [.int t0] σ := by
  intro v3 v4 v5 v6 v7 v8 v9 v11 t0 σ h
  unfold mX8_wayDown_125 at h
  refine k_istore (lv' := [(12, _), (0, _), (1, _), (2, _), (3, _), (4, _), (5, _), (6, _), (7, _), (8, _), (9, _), (11, _)]) K dX8_wayDown_125 (by rw [hn]; decide) rfl ?_
  refine k_iload K dX8_wayDown_127 11 rfl ?_
  refine k_iload K dX8_wayDown_129 7 rfl ?_
  refine k_icmp_lt (tgt := 139) K dX8_wayDown_131 (by decide) (fun q => ?_) (fun q => ?_)
  · have h := if_t q h
    exact k_sub [1, 2, 3, 4, 5, 6, 9, 10, 11] rfl (wX8_wayDown_139 K hn hR hr hrc _ _ _ _ _ _ _ h)
  · have h := if_f q h
    refine k_iload K dX8_wayDown_134 0 rfl ?_
    refine k_if_eq (tgt := 147) K dX8_wayDown_136 (by decide) (fun q => ?_) (fun q => ?_)
    · have h := if_t q h
      exact k_sub [1, 2, 3, 4, 5, 6, 7, 8, 9] rfl (wX8_wayDown_147 K hn hR hr hrc _ _ _ _ _ _ _ h)
    · have h := if_f q h
      exact k_sub [1, 2, 3, 4, 5, 6, 9, 10, 11] rfl (wX8_wayDown_139 K hn hR hr hrc _ _ _ _ _ _ _ h)
set_option maxRecDepth 100000 in
set_option maxHeartbeats 4000000 in
theorem wX8_wayDown_124 {l : Launch} {D : va_G} {cI cZ cC cG cB : ClassId} {ad : Nat → Nat} {a : Program × Env × State × MethodId} {b : Array Value × List Frame × Method × Code × (State → Prop) × Nat} {A : Nat → Prop} {r : Nat} {rc : Int32 → Int32 → Int32 → Int32 → Int32 → Int32 → St → Option (Int32 × St)} (K : KS (GS l 0 0 D cI cZ cC cG cB ad a b A) cX8_wayDown RX8 wsX8_wayDown (some .int)) (hn : x_n (GS l 0 0 D cI cZ cC cG cB ad a b A) = 13) {res : (Int32 × St)} (hR : HRi (GS l 0 0 D cI cZ cC cG cB ad a b A) cX8_wayDown tb res) (hr : isR r) (hrc : ∀ (v3 : Int32) (v4 : Int32) (v5 : Int32) (v6 : Int32) (v7 : Int32) (v8 : Int32) (σ : St), rc v3 v4 v5 v6 v7 v8 σ = some res → Wk (GS l 0 0 D cI cZ cC cG cB ad a b A) 38 [(0, .ref (ad r)), (1, .ref (ad 10)), (2, .ref (ad 26)), (3, .int v3), (4, .int v4), (5, .int v5), (6, .int v6), (7, .int v7), (8, .int v8)] [] σ) : ∀ (v3 : Int32), ∀ (v4 : Int32), ∀ (v5 : Int32), ∀ (v6 : Int32), ∀ (v7 : Int32), ∀ (v8 : Int32), ∀ (v9 : Int32), ∀ (v11 : Int32), ∀ (σ : St), mX8_wayDown_124 r rc v3 v4 v5 v6 v7 v8 v9 v11 σ = some res → Wk (GS l 0 0 D cI cZ cC cG cB ad a b A) 124 [(0, .ref (ad r)), (1, .ref (ad 10)), (2, .ref (ad 26)), (3, .int v3), (4, .int v4), (5, .int v5), (6, .int v6), (7, .int v7), (8, .int v8), (9, .int v9), (11, .int v11)] [] σ := by
  intro v3 v4 v5 v6 v7 v8 v9 v11 σ h
  unfold mX8_wayDown_124 at h
  refine k_iconst (x := 0) K dX8_wayDown_124 (by decide) ?_
  exact k_sub [0, 1, 2, 3, 4, 5, 6, 7, 8, 9, 10] rfl (wX8_wayDown_125 K hn hR hr hrc _ _ _ _ _ _ _ _ _ _ h)
set_option maxRecDepth 100000 in
set_option maxHeartbeats 4000000 in
theorem wX8_wayDown_57 {l : Launch} {D : va_G} {cI cZ cC cG cB : ClassId} {ad : Nat → Nat} {a : Program × Env × State × MethodId} {b : Array Value × List Frame × Method × Code × (State → Prop) × Nat} {A : Nat → Prop} {r : Nat} {rc : Int32 → Int32 → Int32 → Int32 → Int32 → Int32 → St → Option (Int32 × St)} (K : KS (GS l 0 0 D cI cZ cC cG cB ad a b A) cX8_wayDown RX8 wsX8_wayDown (some .int)) (hn : x_n (GS l 0 0 D cI cZ cC cG cB ad a b A) = 13) {res : (Int32 × St)} (hR : HRi (GS l 0 0 D cI cZ cC cG cB ad a b A) cX8_wayDown tb res) (hr : isR r) (hrc : ∀ (v3 : Int32) (v4 : Int32) (v5 : Int32) (v6 : Int32) (v7 : Int32) (v8 : Int32) (σ : St), rc v3 v4 v5 v6 v7 v8 σ = some res → Wk (GS l 0 0 D cI cZ cC cG cB ad a b A) 38 [(0, .ref (ad r)), (1, .ref (ad 10)), (2, .ref (ad 26)), (3, .int v3), (4, .int v4), (5, .int v5), (6, .int v6), (7, .int v7), (8, .int v8)] [] σ) : ∀ (v3 : Int32), ∀ (v4 : Int32), ∀ (v5 : Int32), ∀ (v6 : Int32), ∀ (v7 : Int32), ∀ (v8 : Int32), ∀ (t0 : Int32), ∀ (σ : St), mX8_wayDown_57 r rc v3 v4 v5 v6 v7 v8 t0 σ = some res → Wk (GS l 0 0 D cI cZ cC cG cB ad a b A) 57 [(0, .ref (ad r)), (1, .ref (ad 10)), (2, .ref (ad 26)), (3, .int v3), (4, .int v4), (5, .int v5), (6, .int v6), (7, .int v7), (8, .int v8)] [.int t0] σ := by
  intro v3 v4 v5 v6 v7 v8 t0 σ h
  unfold mX8_wayDown_57 at h
  refine k_istore (lv' := [(9, _), (0, _), (1, _), (2, _), (3, _), (4, _), (5, _), (6, _), (7, _), (8, _)]) K dX8_wayDown_57 (by rw [hn]; decide) rfl ?_
  refine k_aload_n K dX8_wayDown_59 2 rfl ?_
  refine k_get K 10 2 8 iX8_wayDown_X2 (Nat.le_of_ble_eq_true rfl) ((mS_10 cI cZ cC cG cB ad) _) rfl (by decide) fX8_wayDown_67 rfl dX8_wayDown_60 ?_
  refine k_iconst (x := 4) K dX8_wayDown_63 (by decide) ?_
  refine k_aload_n K dX8_wayDown_64 1 rfl ?_
  refine k_get K r 8 0 iX8_wayDown_X8 (lS_R hr) ((mS_R cI cZ cC cG cB ad hr) _) rfl (by decide) fX8_wayDown_27 rfl dX8_wayDown_65 ?_
  refine k_imul K dX8_wayDown_68 ?_
  refine k_iload K dX8_wayDown_69 0 rfl ?_
  refine k_iadd K dX8_wayDown_71 ?_
  obtain ⟨g6, h⟩ := gd_some h
  refine k_ild K 14 0 (Nat.le_of_ble_eq_true rfl) ((mS_14 cI cZ cC cG cB ad) _) rfl g6 dX8_wayDown_72 ?_
  have h := lt_some h
  refine k_istore (lv' := [(10, _), (9, _), (0, _), (1, _), (2, _), (3, _), (4, _), (5, _), (6, _), (7, _), (8, _)]) K dX8_wayDown_73 (by rw [hn]; decide) rfl ?_
  refine k_iload K dX8_wayDown_75 7 rfl ?_
  refine k_iload K dX8_wayDown_77 1 rfl ?_
  refine k_ishr K dX8_wayDown_79 ?_
  refine k_iconst (x := 1) K dX8_wayDown_80 (by decide) ?_
  refine k_iand K dX8_wayDown_81 ?_
  refine k_if_ne (tgt := 147) K dX8_wayDown_82 (by decide) (fun q => ?_) (fun q => ?_)
  · have h := if_f q h
    exact k_sub [2, 3, 4, 5, 6, 7, 8, 9, 10] rfl (wX8_wayDown_147 K hn hR hr hrc _ _ _ _ _ _ _ h)
  · have h := if_t q h
    refine k_iload K dX8_wayDown_85 0 rfl ?_
    refine k_iconst (x := (-1)) K dX8_wayDown_87 (by decide) ?_
    refine k_icmp_eq (tgt := 147) K dX8_wayDown_88 (by decide) (fun q => ?_) (fun q => ?_)
    · have h := if_t q h
      exact k_sub [2, 3, 4, 5, 6, 7, 8, 9, 10] rfl (wX8_wayDown_147 K hn hR hr hrc _ _ _ _ _ _ _ h)
    · have h := if_f q h
      refine k_aload_n K dX8_wayDown_91 4 rfl ?_
      refine k_get K 26 3 2 iX8_wayDown_X3 (Nat.le_of_ble_eq_true rfl) ((mS_26 cI cZ cC cG cB ad) _) rfl (by decide) fX8_wayDown_64 rfl dX8_wayDown_92 ?_
      refine k_iload K dX8_wayDown_95 0 rfl ?_
      obtain ⟨g9, h⟩ := gd_some h
      refine k_ild K 27 0 (Nat.le_of_ble_eq_true rfl) ((mS_27 cI cZ cC cG cB ad) _) rfl g9 dX8_wayDown_97 ?_
      have h := lt_some h
      refine k_istore (lv' := [(11, _), (10, _), (9, _), (0, _), (1, _), (2, _), (3, _), (4, _), (5, _), (6, _), (7, _), (8, _)]) K dX8_wayDown_98 (by rw [hn]; decide) rfl ?_
      refine k_iload K dX8_wayDown_100 0 rfl ?_
      refine k_iload K dX8_wayDown_102 9 rfl ?_
      refine k_icmp_ne (tgt := 124) K dX8_wayDown_104 (by decide) (fun q => ?_) (fun q => ?_)
      · have h := if_f q h
        exact k_sub [3, 4, 5, 6, 7, 8, 9, 10, 11, 2, 0] rfl (wX8_wayDown_124 K hn hR hr hrc _ _ _ _ _ _ _ _ _ h)
      · have h := if_t q h
        refine k_iload K dX8_wayDown_107 10 rfl ?_
        refine k_iconst (x := (-1)) K dX8_wayDown_109 (by decide) ?_
        refine k_icmp_eq (tgt := 124) K dX8_wayDown_110 (by decide) (fun q => ?_) (fun q => ?_)
        · have h := if_t q h
          exact k_sub [3, 4, 5, 6, 7, 8, 9, 10, 11, 2, 0] rfl (wX8_wayDown_124 K hn hR hr hrc _ _ _ _ _ _ _ _ _ h)
        · have h := if_f q h
          refine k_iload K dX8_wayDown_113 2 rfl ?_
          refine k_iload K dX8_wayDown_115 7 rfl ?_
          refine k_icmp_ne (tgt := 124) K dX8_wayDown_117 (by decide) (fun q => ?_) (fun q => ?_)
          · have h := if_f q h
            exact k_sub [3, 4, 5, 6, 7, 8, 9, 10, 11, 2, 0] rfl (wX8_wayDown_124 K hn hR hr hrc _ _ _ _ _ _ _ _ _ h)
          · have h := if_t q h
            refine k_iconst (x := 1) K dX8_wayDown_120 (by decide) ?_
            refine k_goto (tgt := 125) K dX8_wayDown_121 (by decide) ?_
            exact k_sub [3, 4, 5, 6, 7, 8, 9, 10, 11, 2, 0] rfl (wX8_wayDown_125 K hn hR hr hrc _ _ _ _ _ _ _ _ _ _ h)
set_option maxRecDepth 100000 in
set_option maxHeartbeats 4000000 in
theorem wX8_wayDown_38 {l : Launch} {D : va_G} {cI cZ cC cG cB : ClassId} {ad : Nat → Nat} {a : Program × Env × State × MethodId} {b : Array Value × List Frame × Method × Code × (State → Prop) × Nat} {A : Nat → Prop} {r : Nat} (K : KS (GS l 0 0 D cI cZ cC cG cB ad a b A) cX8_wayDown RX8 wsX8_wayDown (some .int)) (hn : x_n (GS l 0 0 D cI cZ cC cG cB ad a b A) = 13) {res : (Int32 × St)} (hR : HRi (GS l 0 0 D cI cZ cC cG cB ad a b A) cX8_wayDown tb res) (hr : isR r) : ∀ (n : Nat) (v3 : Int32) (v4 : Int32) (v5 : Int32) (v6 : Int32) (v7 : Int32) (v8 : Int32) (σ : St), mX8_wayDown_38 r n v3 v4 v5 v6 v7 v8 σ = some res → Wk (GS l 0 0 D cI cZ cC cG cB ad a b A) 38 [(0, .ref (ad r)), (1, .ref (ad 10)), (2, .ref (ad 26)), (3, .int v3), (4, .int v4), (5, .int v5), (6, .int v6), (7, .int v7), (8, .int v8)] [] σ := by
  intro n
  induction n with
  | zero => intro v3 v4 v5 v6 v7 v8 σ h; cases h
  | succ n ih =>
    intro v3 v4 v5 v6 v7 v8 σ h
    unfold mX8_wayDown_38 at h
    refine k_iload K dX8_wayDown_38 8 rfl ?_
    refine k_iconst (x := 4) K dX8_wayDown_40 (by decide) ?_
    refine k_icmp_ge (tgt := 153) K dX8_wayDown_41 (by decide) (fun q => ?_) (fun q => ?_)
    · have h := if_f q h
      refine k_iload K dX8_wayDown_153 7 rfl ?_
      exact ret_i hR h dX8_wayDown_155 trivial
    · have h := if_t q h
      refine k_iload_n K dX8_wayDown_44 3 rfl ?_
      refine k_if_eq (tgt := 55) K dX8_wayDown_45 (by decide) (fun q => ?_) (fun q => ?_)
      · have h := if_t q h
        refine k_iload K dX8_wayDown_55 8 rfl ?_
        exact k_sub [0, 1, 2, 3, 4, 5, 6, 7, 8] rfl (wX8_wayDown_57 K hn hR hr ih _ _ _ _ _ _ _ _ h)
      · have h := if_f q h
        refine k_iconst (x := 3) K dX8_wayDown_48 (by decide) ?_
        refine k_iload K dX8_wayDown_49 8 rfl ?_
        refine k_isub K dX8_wayDown_51 ?_
        refine k_goto (tgt := 57) K dX8_wayDown_52 (by decide) ?_
        exact k_sub [0, 1, 2, 3, 4, 5, 6, 7, 8] rfl (wX8_wayDown_57 K hn hR hr ih _ _ _ _ _ _ _ _ h)
set_option maxRecDepth 100000 in
set_option maxHeartbeats 4000000 in
theorem ctX8_wayDown {l : Launch} {D : va_G} {cI cZ cC cG cB : ClassId} {ad : Nat → Nat} {r : Nat} {v3 : Int32} {v4 : Int32} {σ : St} {res : (Int32 × St)} (hr : isR r) (h : mX8_wayDown r v3 v4 σ = some res) : Ci l yX8_wayDown wsX8_wayDown 0 0 D vwCl (tysS cI cZ cC cG cB) nwS (mkS cI cZ cC cG cB ad) ad 75 [.ref (ad r), .ref (ad 10), .ref (ad 26), .int v3, .int v4] σ res := by
  refine c_int (cc := cX8_wayDown) (maxL := 13) (by decide) rfl (Nat.le_of_ble_eq_true rfl) fun a b hn K hR => ?_
  unfold mX8_wayDown at h
  have K : KS (GS l 0 0 D cI cZ cC cG cB ad a b (w_A ad 75)) cX8_wayDown RX8 wsX8_wayDown (some .int) := K
  have hn : x_n (GS l 0 0 D cI cZ cC cG cB ad a b (w_A ad 75)) = 13 := hn
  refine k_sub [0, 1, 2, 3, 4] rfl ?_
  refine k_aload_n K dX8_wayDown_0 1 rfl ?_
  refine k_get K 10 2 6 iX8_wayDown_X2 (Nat.le_of_ble_eq_true rfl) ((mS_10 cI cZ cC cG cB ad) _) rfl (by decide) fX8_wayDown_56 rfl dX8_wayDown_1 ?_
  refine k_aload_n K dX8_wayDown_4 0 rfl ?_
  refine k_get K r 8 0 iX8_wayDown_X8 (lS_R hr) ((mS_R cI cZ cC cG cB ad hr) _) rfl (by decide) fX8_wayDown_27 rfl dX8_wayDown_5 ?_
  obtain ⟨g1, h⟩ := gd_some h
  refine k_ild K 12 0 (Nat.le_of_ble_eq_true rfl) ((mS_12 cI cZ cC cG cB ad) _) rfl g1 dX8_wayDown_8 ?_
  refine k_aload_n K dX8_wayDown_9 2 rfl ?_
  refine k_get K 26 3 3 iX8_wayDown_X3 (Nat.le_of_ble_eq_true rfl) ((mS_26 cI cZ cC cG cB ad) _) rfl (by decide) fX8_wayDown_59 rfl dX8_wayDown_10 ?_
  refine k_aload_n K dX8_wayDown_13 0 rfl ?_
  refine k_get K r 8 0 iX8_wayDown_X8 (lS_R hr) ((mS_R cI cZ cC cG cB ad hr) _) rfl (by decide) fX8_wayDown_27 rfl dX8_wayDown_14 ?_
  obtain ⟨g2, h⟩ := gd_some h
  refine k_ild K 28 0 (Nat.le_of_ble_eq_true rfl) ((mS_28 cI cZ cC cG cB ad) _) rfl g2 dX8_wayDown_17 ?_
  refine k_ior K dX8_wayDown_18 ?_
  have h := lt_some h
  refine k_istore (lv' := [(5, _), (0, _), (1, _), (2, _), (3, _), (4, _)]) K dX8_wayDown_19 (by rw [hn]; decide) rfl ?_
  refine k_aload_n K dX8_wayDown_21 3 rfl ?_
  refine k_get K 26 3 2 iX8_wayDown_X3 (Nat.le_of_ble_eq_true rfl) ((mS_26 cI cZ cC cG cB ad) _) rfl (by decide) fX8_wayDown_64 rfl dX8_wayDown_22 ?_
  refine k_aload_n K dX8_wayDown_25 1 rfl ?_
  refine k_get K r 8 0 iX8_wayDown_X8 (lS_R hr) ((mS_R cI cZ cC cG cB ad hr) _) rfl (by decide) fX8_wayDown_27 rfl dX8_wayDown_26 ?_
  obtain ⟨g4, h⟩ := gd_some h
  refine k_ild K 27 0 (Nat.le_of_ble_eq_true rfl) ((mS_27 cI cZ cC cG cB ad) _) rfl g4 dX8_wayDown_29 ?_
  have h := lt_some h
  refine k_istore (lv' := [(6, _), (5, _), (0, _), (1, _), (2, _), (3, _), (4, _)]) K dX8_wayDown_30 (by rw [hn]; decide) rfl ?_
  refine k_iconst (x := (-1)) K dX8_wayDown_32 (by decide) ?_
  refine k_istore (lv' := [(7, _), (6, _), (5, _), (0, _), (1, _), (2, _), (3, _), (4, _)]) K dX8_wayDown_33 (by rw [hn]; decide) rfl ?_
  refine k_iconst (x := 0) K dX8_wayDown_35 (by decide) ?_
  refine k_istore (lv' := [(8, _), (7, _), (6, _), (5, _), (0, _), (1, _), (2, _), (3, _), (4, _)]) K dX8_wayDown_36 (by rw [hn]; decide) rfl ?_
  exact k_sub [4, 5, 6, 7, 8, 3, 2, 1, 0] rfl (wX8_wayDown_38 K hn hR hr FU _ _ _ _ _ _ _ h)
-- X8_sideOf (0, 0)
theorem iX8_sideOf_X2 : ∀ w ∈ wsX20, w ∈ wsX8_sideOf := fun _ h => List.mem_cons_of_mem _ (List.mem_append_right _ h)
theorem fX8_sideOf_70 : Cond.fieldLink RX8 70 "SlopeCoins$City" "wide" "I" ∈ wsX8_sideOf := by decide +kernel
set_option maxRecDepth 100000 in
set_option maxHeartbeats 4000000 in
theorem ctX8_sideOf {l : Launch} {D : va_G} {cI cZ cC cG cB : ClassId} {ad : Nat → Nat} {v1 : Int32} {v2 : Int32} {σ : St} {res : (Int32 × St)} (h : mX8_sideOf v1 v2 σ = some res) : Ci l yX8_sideOf wsX8_sideOf 0 0 D vwCl (tysS cI cZ cC cG cB) nwS (mkS cI cZ cC cG cB ad) ad 75 [.ref (ad 10), .int v1, .int v2] σ res := by
  refine c_int (cc := cX8_sideOf) (maxL := 3) (by decide) rfl (Nat.le_of_ble_eq_true rfl) fun a b hn K hR => ?_
  unfold mX8_sideOf at h
  have K : KS (GS l 0 0 D cI cZ cC cG cB ad a b (w_A ad 75)) cX8_sideOf RX8 wsX8_sideOf (some .int) := K
  have hn : x_n (GS l 0 0 D cI cZ cC cG cB ad a b (w_A ad 75)) = 3 := hn
  refine k_sub [0, 1, 2] rfl ?_
  refine k_iload_n K dX8_sideOf_0 2 rfl ?_
  refine k_case (y := 0) (fun q0 => ?_) (fun q0 => ?_)
  · have h := if_t q0 h
    refine k_tableIn (off := 27) (tgt := 28) K dX8_sideOf_1 (by rw [q0]; decide) (by rw [q0]; decide) (by rw [q0]; rfl) (by decide) ?_
    refine k_iconst (x := 2) K dX8_sideOf_28 (by decide) ?_
    refine k_iload_n K dX8_sideOf_29 1 rfl ?_
    refine k_aload_n K dX8_sideOf_30 0 rfl ?_
    refine k_get K 10 2 0 iX8_sideOf_X2 (Nat.le_of_ble_eq_true rfl) ((mS_10 cI cZ cC cG cB ad) _) rfl (by decide) fX8_sideOf_70 rfl dX8_sideOf_31 ?_
    refine k_isub K dX8_sideOf_34 ?_
    refine k_imul K dX8_sideOf_35 ?_
    refine k_iconst (x := 1) K dX8_sideOf_36 (by decide) ?_
    refine k_iadd K dX8_sideOf_37 ?_
    exact ret_i hR h dX8_sideOf_38 trivial
  · have h := if_f q0 h
    refine k_case (y := 1) (fun q1 => ?_) (fun q1 => ?_)
    · have h := if_t q1 h
      refine k_tableIn (off := 38) (tgt := 39) K dX8_sideOf_1 (by rw [q1]; decide) (by rw [q1]; decide) (by rw [q1]; rfl) (by decide) ?_
      refine k_iconst (x := 2) K dX8_sideOf_39 (by decide) ?_
      refine k_iload_n K dX8_sideOf_40 1 rfl ?_
      refine k_imul K dX8_sideOf_41 ?_
      exact ret_i hR h dX8_sideOf_42 trivial
    · have h := if_f q1 h
      refine k_case (y := 2) (fun q2 => ?_) (fun q2 => ?_)
      · have h := if_t q2 h
        refine k_tableIn (off := 42) (tgt := 43) K dX8_sideOf_1 (by rw [q2]; decide) (by rw [q2]; decide) (by rw [q2]; rfl) (by decide) ?_
        refine k_iconst (x := 2) K dX8_sideOf_43 (by decide) ?_
        refine k_iload_n K dX8_sideOf_44 1 rfl ?_
        refine k_imul K dX8_sideOf_45 ?_
        refine k_iconst (x := 1) K dX8_sideOf_46 (by decide) ?_
        refine k_iadd K dX8_sideOf_47 ?_
        exact ret_i hR h dX8_sideOf_48 trivial
      · have h := if_f q2 h
        refine k_tableOut (tgt := 49) K dX8_sideOf_1 (sw_out3 q0 q1 q2) (by decide) ?_
        refine k_iconst (x := 2) K dX8_sideOf_49 (by decide) ?_
        refine k_iload_n K dX8_sideOf_50 1 rfl ?_
        refine k_iconst (x := 1) K dX8_sideOf_51 (by decide) ?_
        refine k_isub K dX8_sideOf_52 ?_
        refine k_imul K dX8_sideOf_53 ?_
        exact ret_i hR h dX8_sideOf_54 trivial
-- X8_go (1, 32)
theorem iX8_go_X2 : ∀ w ∈ wsX20, w ∈ wsX8_go := fun _ h => List.mem_cons_of_mem _ (List.mem_append_left _ (List.mem_append_right _ h))
theorem iX8_go_X8 : ∀ w ∈ wsX80, w ∈ wsX8_go := fun _ h => List.mem_cons_of_mem _ (List.mem_append_left _ (List.mem_append_left _ (List.mem_append_right _ h)))
theorem fX8_go_9 : Cond.fieldLink RX8 9 "SlopeCoins$Roll" "crossed" "[I" ∈ wsX8_go := by decide +kernel
theorem fX8_go_27 : Cond.fieldLink RX8 27 "SlopeCoins$Roll" "at" "I" ∈ wsX8_go := by decide +kernel
theorem fX8_go_31 : Cond.fieldLink RX8 31 "SlopeCoins$Roll" "fell" "Z" ∈ wsX8_go := by decide +kernel
theorem fX8_go_35 : Cond.fieldLink RX8 35 "SlopeCoins$Roll" "steps" "I" ∈ wsX8_go := by decide +kernel
theorem fX8_go_38 : Cond.fieldLink RX8 38 "SlopeCoins$Roll" "past" "I" ∈ wsX8_go := by decide +kernel
theorem fX8_go_41 : Cond.fieldLink RX8 41 "SlopeCoins$City" "grating" "[I" ∈ wsX8_go := by decide +kernel
set_option maxRecDepth 100000 in
set_option maxHeartbeats 4000000 in
theorem wX8_go_30 {l : Launch} {D : va_G} {cI cZ cC cG cB : ClassId} {ad : Nat → Nat} {a : Program × Env × State × MethodId} {b : Array Value × List Frame × Method × Code × (State → Prop) × Nat} {A : Nat → Prop} {r : Nat} (K : KS (GS l 1 32 D cI cZ cC cG cB ad a b A) cX8_go RX8 wsX8_go none) (hn : x_n (GS l 1 32 D cI cZ cC cG cB ad a b A) = 9) {res : (Int32 × St)} (hR : HRv (GS l 1 32 D cI cZ cC cG cB ad a b A) cX8_go res) (hr : isR r) : ∀ (n : Nat) (v3 : Int32) (v4 : Int32) (v6 : Int32) (v7 : Int32) (σ : St), mX8_go_30 r n v3 v4 v6 v7 σ = some res → Wk (GS l 1 32 D cI cZ cC cG cB ad a b A) 30 [(0, .ref (ad r)), (1, .ref (ad 10)), (2, .ref (ad 26)), (3, .int v3), (4, .int v4), (6, .int v6), (7, .int v7)] [] σ := by
  intro n
  induction n with
  | zero => intro v3 v4 v6 v7 σ h; cases h
  | succ n ih =>
    intro v3 v4 v6 v7 σ h
    unfold mX8_go_30 at h
    refine k_iload K dX8_go_30 6 rfl ?_
    refine k_bipush (x := 9) K dX8_go_32 (by decide) ?_
    refine k_icmp_gt (tgt := 143) K dX8_go_34 (by decide) (fun q => ?_) (fun q => ?_)
    · have h := if_t q h
      exact ret_v hR h dX8_go_143
    · have h := if_f q h
      refine k_aload_n K dX8_go_37 1 rfl ?_
      refine k_get K 10 2 7 iX8_go_X2 (Nat.le_of_ble_eq_true rfl) ((mS_10 cI cZ cC cG cB ad) _) rfl (by decide) fX8_go_41 rfl dX8_go_38 ?_
      refine k_aload_n K dX8_go_41 0 rfl ?_
      refine k_get K r 8 0 iX8_go_X8 (lS_R hr) ((mS_R cI cZ cC cG cB ad hr) _) rfl (by decide) fX8_go_27 rfl dX8_go_42 ?_
      obtain ⟨g5, h⟩ := gd_some h
      refine k_ild K 13 0 (Nat.le_of_ble_eq_true rfl) ((mS_13 cI cZ cC cG cB ad) _) rfl g5 dX8_go_45 ?_
      refine k_iload_n K dX8_go_46 3 rfl ?_
      refine k_icmp_lt (tgt := 56) K dX8_go_47 (by decide) (fun q => ?_) (fun q => ?_)
      · have h := if_t q h
        refine k_aload_n K dX8_go_56 0 rfl ?_
        refine k_aload_n K dX8_go_57 1 rfl ?_
        refine k_aload_n K dX8_go_58 2 rfl ?_
        refine k_iload K dX8_go_59 4 rfl ?_
        refine k_iload K dX8_go_61 5 rfl ?_
        obtain ⟨⟨r6, s7⟩, e8, h⟩ := bd_some h
        dsimp only at h
        refine k_callVi K r 8 (lS_R hr) ((mS_R cI cZ cC cG cB ad hr) _) rfl (ctX8_wayDown hr e8) (cwV 4 K.ts gX8_go_X8_wayDown rfl rfl rfl hVX8_wayDown ⟨Nat.le_of_ble_eq_true rfl, Nat.le_of_ble_eq_true rfl⟩) rfl rfl (Nat.le_of_ble_eq_true rfl) dX8_go_63 ?_
        refine k_istore (lv' := [(8, _), (0, _), (1, _), (2, _), (3, _), (4, _), (6, _), (7, _)]) K dX8_go_66 (by rw [hn]; decide) rfl ?_
        refine k_iload K dX8_go_68 0 rfl ?_
        refine k_iconst (x := (-1)) K dX8_go_70 (by decide) ?_
        refine k_icmp_ne (tgt := 75) K dX8_go_71 (by decide) (fun q => ?_) (fun q => ?_)
        · have h := if_f q h
          refine k_aload_n K dX8_go_75 1 rfl ?_
          refine k_get K r 8 4 iX8_go_X8 (lS_R hr) ((mS_R cI cZ cC cG cB ad hr) _) rfl (by decide) fX8_go_9 rfl dX8_go_76 ?_
          refine k_aload_n K dX8_go_79 1 rfl ?_
          refine k_get K r 8 2 iX8_go_X8 (lS_R hr) ((mS_R cI cZ cC cG cB ad hr) _) rfl (by decide) fX8_go_35 rfl dX8_go_80 ?_
          refine k_aload_n K dX8_go_83 2 rfl ?_
          refine k_aload_n K dX8_go_84 1 rfl ?_
          refine k_get K r 8 0 iX8_go_X8 (lS_R hr) ((mS_R cI cZ cC cG cB ad hr) _) rfl (by decide) fX8_go_27 rfl dX8_go_85 ?_
          refine k_iload K dX8_go_88 0 rfl ?_
          obtain ⟨⟨r9, s10⟩, e11, h⟩ := bd_some h
          dsimp only at h
          refine k_callSi K (ctX8_sideOf e11) (va_cwS 3 K.ts gX8_go_X8_sideOf rfl rfl rfl hSX8_sideOf ⟨Nat.le_of_ble_eq_true rfl, Nat.le_of_ble_eq_true rfl⟩) rfl rfl (Nat.le_of_ble_eq_true rfl) dX8_go_90 ?_
          obtain ⟨g12, h⟩ := gd_some h
          have h := lt_some h
          refine k_ist K (r + 1) 0 (lS_R1 hr) (mS_R1 cI cZ cC cG cB ad hr) rfl g12 dX8_go_93 ?_
          refine k_aload_n K dX8_go_94 1 rfl ?_
          refine k_dup K dX8_go_95 rfl ?_
          refine k_get K r 8 2 iX8_go_X8 (lS_R hr) ((mS_R cI cZ cC cG cB ad hr) _) rfl (by decide) fX8_go_35 rfl dX8_go_96 ?_
          refine k_iconst (x := 1) K dX8_go_99 (by decide) ?_
          refine k_iadd K dX8_go_100 ?_
          have h := lt_some h
          refine k_putI K r 8 2 tyX8 tyX8_ok nmX8 iX8_go_X8 (lS_R hr) ((mS_R cI cZ cC cG cB ad hr) _) rfl (by decide) fX8_go_35 rfl (by decide +kernel) (Nat.le_of_ble_eq_true rfl) (pS_R_2 cI cZ cC cG cB ad hr _ _) dX8_go_101 ?_
          refine k_aload_n K dX8_go_104 1 rfl ?_
          refine k_aload_n K dX8_go_105 2 rfl ?_
          refine k_aload_n K dX8_go_106 1 rfl ?_
          refine k_get K r 8 0 iX8_go_X8 (lS_R hr) ((mS_R cI cZ cC cG cB ad hr) _) rfl (by decide) fX8_go_27 rfl dX8_go_107 ?_
          refine k_iload K dX8_go_110 0 rfl ?_
          obtain ⟨⟨r15, s16⟩, e17, h⟩ := bd_some h
          dsimp only at h
          refine k_callVi K 10 2 (Nat.le_of_ble_eq_true rfl) ((mS_10 cI cZ cC cG cB ad) _) rfl (ctX2_besideOf (by decide) e17) (cwV 2 K.ts gX8_go_X2_besideOf rfl rfl rfl hVX2_besideOf ⟨Nat.le_of_ble_eq_true rfl, Nat.le_of_ble_eq_true rfl⟩) rfl rfl (Nat.le_of_ble_eq_true rfl) dX8_go_112 ?_
          have h := lt_some h
          refine k_putI K r 8 0 tyX8 tyX8_ok nmX8 iX8_go_X8 (lS_R hr) ((mS_R cI cZ cC cG cB ad hr) _) rfl (by decide) fX8_go_27 rfl (by decide +kernel) (Nat.le_of_ble_eq_true rfl) (pS_R_0 cI cZ cC cG cB ad hr _ _) dX8_go_115 ?_
          refine k_aload_n K dX8_go_118 1 rfl ?_
          refine k_dup K dX8_go_119 rfl ?_
          refine k_get K r 8 3 iX8_go_X8 (lS_R hr) ((mS_R cI cZ cC cG cB ad hr) _) rfl (by decide) fX8_go_38 rfl dX8_go_120 ?_
          refine k_iconst (x := 1) K dX8_go_123 (by decide) ?_
          refine k_aload_n K dX8_go_124 1 rfl ?_
          refine k_get K r 8 0 iX8_go_X8 (lS_R hr) ((mS_R cI cZ cC cG cB ad hr) _) rfl (by decide) fX8_go_27 rfl dX8_go_125 ?_
          refine k_ishl K dX8_go_128 ?_
          refine k_ior K dX8_go_129 ?_
          have h := lt_some h
          refine k_putI K r 8 3 tyX8 tyX8_ok nmX8 iX8_go_X8 (lS_R hr) ((mS_R cI cZ cC cG cB ad hr) _) rfl (by decide) fX8_go_38 rfl (by decide +kernel) (Nat.le_of_ble_eq_true rfl) (pS_R_3 cI cZ cC cG cB ad hr _ _) dX8_go_130 ?_
          refine k_iload K dX8_go_133 0 rfl ?_
          refine k_istore (lv' := [(6, _), (8, _), (0, _), (1, _), (2, _), (3, _), (4, _), (7, _)]) K dX8_go_135 (by rw [hn]; decide) rfl ?_
          have h := lt_some h
          refine k_iinc (lv' := [(7, _), (6, _), (8, _), (0, _), (1, _), (2, _), (3, _), (4, _)]) K dX8_go_137 7 rfl (v := _ + 1) (by rfl) (by rw [hn]; decide) rfl ?_
          refine k_goto (tgt := 30) K dX8_go_140 (by decide) ?_
          exact k_sub [3, 4, 5, 6, 7, 1, 0] rfl (ih _ _ _ _ _ h)
        · have h := if_t q h
          exact ret_v hR h dX8_go_74
      · have h := if_f q h
        refine k_aload_n K dX8_go_50 0 rfl ?_
        refine k_iconst (x := 1) K dX8_go_51 (by decide) ?_
        have h := lt_some h
        refine k_putZ K r 8 1 tyX8 tyX8_ok nmX8 iX8_go_X8 (lS_R hr) ((mS_R cI cZ cC cG cB ad hr) _) rfl (by decide) fX8_go_31 rfl (by decide +kernel) (Nat.le_of_ble_eq_true rfl) zb_1 rfl (pS_R_1 cI cZ cC cG cB ad hr _ _) dX8_go_52 ?_
        exact ret_v hR h dX8_go_55
set_option maxRecDepth 100000 in
set_option maxHeartbeats 4000000 in
theorem ctX8_go {l : Launch} {D : va_G} {cI cZ cC cG cB : ClassId} {ad : Nat → Nat} {r : Nat} {v3 : Int32} {v4 : Int32} {v5 : Int32} {σ : St} {res : (Int32 × St)} (hr : isR r) (h : mX8_go r v3 v4 v5 σ = some res) : Cv l yX8_go wsX8_go 1 32 D vwCl (tysS cI cZ cC cG cB) nwS (mkS cI cZ cC cG cB ad) ad 75 [.ref (ad r), .ref (ad 10), .ref (ad 26), .int v3, .int v4, .int v5] σ res := by
  refine c_void (cc := cX8_go) (maxL := 9) (by decide) rfl (Nat.le_of_ble_eq_true rfl) fun a b hn K hR => ?_
  unfold mX8_go at h
  have K : KS (GS l 1 32 D cI cZ cC cG cB ad a b (w_A ad 75)) cX8_go RX8 wsX8_go none := K
  have hn : x_n (GS l 1 32 D cI cZ cC cG cB ad a b (w_A ad 75)) = 9 := hn
  refine k_sub [0, 1, 2, 3, 4, 5] rfl ?_
  refine k_aload_n K dX8_go_0 0 rfl ?_
  refine k_iload K dX8_go_1 5 rfl ?_
  have h := lt_some h
  refine k_putI K r 8 0 tyX8 tyX8_ok nmX8 iX8_go_X8 (lS_R hr) ((mS_R cI cZ cC cG cB ad hr) _) rfl (by decide) fX8_go_27 rfl (by decide +kernel) (Nat.le_of_ble_eq_true rfl) (pS_R_0 cI cZ cC cG cB ad hr _ _) dX8_go_3 ?_
  refine k_aload_n K dX8_go_6 0 rfl ?_
  refine k_iconst (x := 0) K dX8_go_7 (by decide) ?_
  have h := lt_some h
  refine k_putZ K r 8 1 tyX8 tyX8_ok nmX8 iX8_go_X8 (lS_R hr) ((mS_R cI cZ cC cG cB ad hr) _) rfl (by decide) fX8_go_31 rfl (by decide +kernel) (Nat.le_of_ble_eq_true rfl) zb_0 rfl (pS_R_1 cI cZ cC cG cB ad hr _ _) dX8_go_8 ?_
  refine k_aload_n K dX8_go_11 0 rfl ?_
  refine k_iconst (x := 0) K dX8_go_12 (by decide) ?_
  have h := lt_some h
  refine k_putI K r 8 2 tyX8 tyX8_ok nmX8 iX8_go_X8 (lS_R hr) ((mS_R cI cZ cC cG cB ad hr) _) rfl (by decide) fX8_go_35 rfl (by decide +kernel) (Nat.le_of_ble_eq_true rfl) (pS_R_2 cI cZ cC cG cB ad hr _ _) dX8_go_13 ?_
  refine k_aload_n K dX8_go_16 0 rfl ?_
  refine k_iconst (x := 1) K dX8_go_17 (by decide) ?_
  refine k_iload K dX8_go_18 5 rfl ?_
  refine k_ishl K dX8_go_20 ?_
  have h := lt_some h
  refine k_putI K r 8 3 tyX8 tyX8_ok nmX8 iX8_go_X8 (lS_R hr) ((mS_R cI cZ cC cG cB ad hr) _) rfl (by decide) fX8_go_38 rfl (by decide +kernel) (Nat.le_of_ble_eq_true rfl) (pS_R_3 cI cZ cC cG cB ad hr _ _) dX8_go_21 ?_
  refine k_iconst (x := (-1)) K dX8_go_24 (by decide) ?_
  refine k_istore (lv' := [(6, _), (0, _), (1, _), (2, _), (3, _), (4, _), (5, _)]) K dX8_go_25 (by rw [hn]; decide) rfl ?_
  refine k_iconst (x := 0) K dX8_go_27 (by decide) ?_
  refine k_istore (lv' := [(7, _), (6, _), (0, _), (1, _), (2, _), (3, _), (4, _), (5, _)]) K dX8_go_28 (by rw [hn]; decide) rfl ?_
  exact k_sub [2, 3, 4, 5, 6, 1, 0] rfl (wX8_go_30 K hn hR hr FU _ _ _ _ _ h)
-- X8_goAs (2, 60)
theorem iX8_goAs_X2 : ∀ w ∈ wsX20, w ∈ wsX8_goAs := fun _ h => List.mem_cons_of_mem _ (List.mem_append_left _ (List.mem_append_left _ (List.mem_append_right _ h)))
theorem fX8_goAs_15 : Cond.fieldLink RX8 15 "SlopeCoins$City" "size" "[I" ∈ wsX8_goAs := by decide +kernel
theorem fX8_goAs_20 : Cond.fieldLink RX8 20 "SlopeCoins$City" "forged" "[I" ∈ wsX8_goAs := by decide +kernel
set_option maxRecDepth 100000 in
set_option maxHeartbeats 4000000 in
theorem ctX8_goAs {l : Launch} {D : va_G} {cI cZ cC cG cB : ClassId} {ad : Nat → Nat} {r : Nat} {v3 : Int32} {v4 : Int32} {σ : St} {res : (Int32 × St)} (hr : isR r) (h : mX8_goAs r v3 v4 σ = some res) : Cv l yX8_goAs wsX8_goAs 2 60 D vwCl (tysS cI cZ cC cG cB) nwS (mkS cI cZ cC cG cB ad) ad 75 [.ref (ad r), .ref (ad 10), .ref (ad 26), .int v3, .int v4] σ res := by
  refine c_void (cc := cX8_goAs) (maxL := 5) (by decide) rfl (Nat.le_of_ble_eq_true rfl) fun a b hn K hR => ?_
  unfold mX8_goAs at h
  have K : KS (GS l 2 60 D cI cZ cC cG cB ad a b (w_A ad 75)) cX8_goAs RX8 wsX8_goAs none := K
  have hn : x_n (GS l 2 60 D cI cZ cC cG cB ad a b (w_A ad 75)) = 5 := hn
  refine k_sub [0, 1, 2, 3, 4] rfl ?_
  refine k_aload_n K dX8_goAs_0 0 rfl ?_
  refine k_aload_n K dX8_goAs_1 1 rfl ?_
  refine k_aload_n K dX8_goAs_2 2 rfl ?_
  refine k_aload_n K dX8_goAs_3 1 rfl ?_
  refine k_get K 10 2 9 iX8_goAs_X2 (Nat.le_of_ble_eq_true rfl) ((mS_10 cI cZ cC cG cB ad) _) rfl (by decide) fX8_goAs_15 rfl dX8_goAs_4 ?_
  refine k_iload_n K dX8_goAs_7 3 rfl ?_
  obtain ⟨g1, h⟩ := gd_some h
  refine k_ild K 15 0 (Nat.le_of_ble_eq_true rfl) ((mS_15 cI cZ cC cG cB ad) _) rfl g1 dX8_goAs_8 ?_
  refine k_aload_n K dX8_goAs_9 1 rfl ?_
  refine k_get K 10 2 11 iX8_goAs_X2 (Nat.le_of_ble_eq_true rfl) ((mS_10 cI cZ cC cG cB ad) _) rfl (by decide) fX8_goAs_20 rfl dX8_goAs_10 ?_
  refine k_iload_n K dX8_goAs_13 3 rfl ?_
  obtain ⟨g2, h⟩ := gd_some h
  refine k_ild K 17 0 (Nat.le_of_ble_eq_true rfl) ((mS_17 cI cZ cC cG cB ad) _) rfl g2 dX8_goAs_14 ?_
  refine k_iconst (x := 1) K dX8_goAs_15 (by decide) ?_
  refine k_icmp_ne (tgt := 23) K dX8_goAs_16 (by decide) (fun q => ?_) (fun q => ?_)
  · have h := if_f q h
    refine k_iconst (x := 0) K dX8_goAs_23 (by decide) ?_
    refine k_iload K dX8_goAs_24 4 rfl ?_
    obtain ⟨⟨r3, s4⟩, e5, h⟩ := bd_some h
    dsimp only at h
    refine k_callVv K r 8 (lS_R hr) ((mS_R cI cZ cC cG cB ad hr) _) rfl (ctX8_go hr e5) (cwV 5 K.ts gX8_goAs_X8_go rfl rfl rfl hVX8_go ⟨Nat.le_of_ble_eq_true rfl, Nat.le_of_ble_eq_true rfl⟩) rfl rfl (Nat.le_of_ble_eq_true rfl) dX8_goAs_26 ?_
    exact ret_v hR h dX8_goAs_29
  · have h := if_t q h
    refine k_iconst (x := 1) K dX8_goAs_19 (by decide) ?_
    refine k_goto (tgt := 24) K dX8_goAs_20 (by decide) ?_
    refine k_iload K dX8_goAs_24 4 rfl ?_
    obtain ⟨⟨r6, s7⟩, e8, h⟩ := bd_some h
    dsimp only at h
    refine k_callVv K r 8 (lS_R hr) ((mS_R cI cZ cC cG cB ad hr) _) rfl (ctX8_go hr e8) (cwV 5 K.ts gX8_goAs_X8_go rfl rfl rfl hVX8_go ⟨Nat.le_of_ble_eq_true rfl, Nat.le_of_ble_eq_true rfl⟩) rfl rfl (Nat.le_of_ble_eq_true rfl) dX8_goAs_26 ?_
    exact ret_v hR h dX8_goAs_29
-- X6_turnSide (2, 46)
set_option maxRecDepth 100000 in
set_option maxHeartbeats 4000000 in
theorem ctX6_turnSide {l : Launch} {D : va_G} {cI cZ cC cG cB : ClassId} {ad : Nat → Nat} {v2 : Int32} {σ : St} {res : (Int32 × St)} (h : mX6_turnSide v2 σ = some res) : Cv l yX6_turnSide wsX6_turnSide 2 46 D vwCl (tysS cI cZ cC cG cB) nwS (mkS cI cZ cC cG cB ad) ad 75 [.ref (ad 10), .ref (ad 26), .int v2] σ res := by
  refine c_void (cc := cX6_turnSide) (maxL := 3) (by decide) rfl (Nat.le_of_ble_eq_true rfl) fun a b hn K hR => ?_
  unfold mX6_turnSide at h
  have K : KS (GS l 2 46 D cI cZ cC cG cB ad a b (w_A ad 75)) cX6_turnSide RX6 wsX6_turnSide none := K
  have hn : x_n (GS l 2 46 D cI cZ cC cG cB ad a b (w_A ad 75)) = 3 := hn
  refine k_sub [0, 1, 2] rfl ?_
  refine k_aload_n K dX6_turnSide_0 1 rfl ?_
  refine k_aload_n K dX6_turnSide_1 0 rfl ?_
  refine k_iload_n K dX6_turnSide_2 2 rfl ?_
  refine k_iconst (x := 2) K dX6_turnSide_3 (by decide) ?_
  refine k_idiv K dX6_turnSide_4 (by decide) ?_
  refine k_iload_n K dX6_turnSide_5 2 rfl ?_
  refine k_iconst (x := 2) K dX6_turnSide_6 (by decide) ?_
  refine k_irem K dX6_turnSide_7 (by decide) ?_
  refine k_if_ne (tgt := 15) K dX6_turnSide_8 (by decide) (fun q => ?_) (fun q => ?_)
  · have h := if_f q h
    refine k_iconst (x := 2) K dX6_turnSide_15 (by decide) ?_
    obtain ⟨⟨r1, s2⟩, e3, h⟩ := bd_some h
    dsimp only at h
    refine k_callVv K 26 3 (Nat.le_of_ble_eq_true rfl) ((mS_26 cI cZ cC cG cB ad) _) rfl (ctX3_turnPlank e3) (cwV 3 K.ts gX6_turnSide_X3_turnPlank rfl rfl rfl hVX3_turnPlank ⟨Nat.le_of_ble_eq_true rfl, Nat.le_of_ble_eq_true rfl⟩) rfl rfl (Nat.le_of_ble_eq_true rfl) dX6_turnSide_16 ?_
    exact ret_v hR h dX6_turnSide_19
  · have h := if_t q h
    refine k_iconst (x := 1) K dX6_turnSide_11 (by decide) ?_
    refine k_goto (tgt := 16) K dX6_turnSide_12 (by decide) ?_
    obtain ⟨⟨r4, s5⟩, e6, h⟩ := bd_some h
    dsimp only at h
    refine k_callVv K 26 3 (Nat.le_of_ble_eq_true rfl) ((mS_26 cI cZ cC cG cB ad) _) rfl (ctX3_turnPlank e6) (cwV 3 K.ts gX6_turnSide_X3_turnPlank rfl rfl rfl hVX3_turnPlank ⟨Nat.le_of_ble_eq_true rfl, Nat.le_of_ble_eq_true rfl⟩) rfl rfl (Nat.le_of_ble_eq_true rfl) dX6_turnSide_16 ?_
    exact ret_v hR h dX6_turnSide_19
-- X6_offerTwo (0, 0)
theorem iX6_offerTwo_X6 : ∀ w ∈ wsX60, w ∈ wsX6_offerTwo := fun _ h => List.mem_cons_of_mem _ (List.mem_append_right _ h)
theorem fX6_offerTwo_24 : Cond.fieldLink RX6 24 "SlopeCoins$PlankSearch" "fewest" "I" ∈ wsX6_offerTwo := by decide +kernel
theorem fX6_offerTwo_28 : Cond.fieldLink RX6 28 "SlopeCoins$PlankSearch" "first" "I" ∈ wsX6_offerTwo := by decide +kernel
theorem fX6_offerTwo_31 : Cond.fieldLink RX6 31 "SlopeCoins$PlankSearch" "second" "I" ∈ wsX6_offerTwo := by decide +kernel
set_option maxRecDepth 100000 in
set_option maxHeartbeats 4000000 in
theorem wX6_offerTwo_33 {l : Launch} {D : va_G} {cI cZ cC cG cB : ClassId} {ad : Nat → Nat} {a : Program × Env × State × MethodId} {b : Array Value × List Frame × Method × Code × (State → Prop) × Nat} {A : Nat → Prop} (K : KS (GS l 0 0 D cI cZ cC cG cB ad a b A) cX6_offerTwo RX6 wsX6_offerTwo none) (hn : x_n (GS l 0 0 D cI cZ cC cG cB ad a b A) = 3) {res : (Int32 × St)} (hR : HRv (GS l 0 0 D cI cZ cC cG cB ad a b A) cX6_offerTwo res) : ∀ (v1 : Int32), ∀ (v2 : Int32), ∀ (σ : St), mX6_offerTwo_33 v1 v2 σ = some res → Wk (GS l 0 0 D cI cZ cC cG cB ad a b A) 33 [(0, .ref (ad 61)), (1, .int v1), (2, .int v2)] [] σ := by
  intro v1 v2 σ h
  unfold mX6_offerTwo_33 at h
  refine k_aload_n K dX6_offerTwo_33 0 rfl ?_
  refine k_iconst (x := 2) K dX6_offerTwo_34 (by decide) ?_
  have h := lt_some h
  refine k_putI K 61 6 0 tyX6 tyX6_ok nmX6 iX6_offerTwo_X6 (Nat.le_of_ble_eq_true rfl) ((mS_61 cI cZ cC cG cB ad) _) rfl (by decide) fX6_offerTwo_24 rfl (by decide +kernel) (Nat.le_of_ble_eq_true rfl) (pS_61_0 cI cZ cC cG cB ad _ _) dX6_offerTwo_35 ?_
  refine k_aload_n K dX6_offerTwo_38 0 rfl ?_
  refine k_iload_n K dX6_offerTwo_39 1 rfl ?_
  have h := lt_some h
  refine k_putI K 61 6 1 tyX6 tyX6_ok nmX6 iX6_offerTwo_X6 (Nat.le_of_ble_eq_true rfl) ((mS_61 cI cZ cC cG cB ad) _) rfl (by decide) fX6_offerTwo_28 rfl (by decide +kernel) (Nat.le_of_ble_eq_true rfl) (pS_61_1 cI cZ cC cG cB ad _ _) dX6_offerTwo_40 ?_
  refine k_aload_n K dX6_offerTwo_43 0 rfl ?_
  refine k_iload_n K dX6_offerTwo_44 2 rfl ?_
  have h := lt_some h
  refine k_putI K 61 6 2 tyX6 tyX6_ok nmX6 iX6_offerTwo_X6 (Nat.le_of_ble_eq_true rfl) ((mS_61 cI cZ cC cG cB ad) _) rfl (by decide) fX6_offerTwo_31 rfl (by decide +kernel) (Nat.le_of_ble_eq_true rfl) (pS_61_2 cI cZ cC cG cB ad _ _) dX6_offerTwo_45 ?_
  exact ret_v hR h dX6_offerTwo_48
set_option maxRecDepth 100000 in
set_option maxHeartbeats 4000000 in
theorem ctX6_offerTwo {l : Launch} {D : va_G} {cI cZ cC cG cB : ClassId} {ad : Nat → Nat} {v1 : Int32} {v2 : Int32} {σ : St} {res : (Int32 × St)} (h : mX6_offerTwo v1 v2 σ = some res) : Cv l yX6_offerTwo wsX6_offerTwo 0 0 D vwCl (tysS cI cZ cC cG cB) nwS (mkS cI cZ cC cG cB ad) ad 75 [.ref (ad 61), .int v1, .int v2] σ res := by
  refine c_void (cc := cX6_offerTwo) (maxL := 3) (by decide) rfl (Nat.le_of_ble_eq_true rfl) fun a b hn K hR => ?_
  unfold mX6_offerTwo at h
  have K : KS (GS l 0 0 D cI cZ cC cG cB ad a b (w_A ad 75)) cX6_offerTwo RX6 wsX6_offerTwo none := K
  have hn : x_n (GS l 0 0 D cI cZ cC cG cB ad a b (w_A ad 75)) = 3 := hn
  refine k_sub [0, 1, 2] rfl ?_
  refine k_aload_n K dX6_offerTwo_0 0 rfl ?_
  refine k_get K 61 6 0 iX6_offerTwo_X6 (Nat.le_of_ble_eq_true rfl) ((mS_61 cI cZ cC cG cB ad) _) rfl (by decide) fX6_offerTwo_24 rfl dX6_offerTwo_1 ?_
  refine k_bipush (x := (-9)) K dX6_offerTwo_4 (by decide) ?_
  refine k_icmp_eq (tgt := 33) K dX6_offerTwo_6 (by decide) (fun q => ?_) (fun q => ?_)
  · have h := if_t q h
    exact k_sub [0, 1, 2] rfl (wX6_offerTwo_33 K hn hR _ _ _ h)
  · have h := if_f q h
    refine k_iload_n K dX6_offerTwo_9 1 rfl ?_
    refine k_aload_n K dX6_offerTwo_10 0 rfl ?_
    refine k_get K 61 6 1 iX6_offerTwo_X6 (Nat.le_of_ble_eq_true rfl) ((mS_61 cI cZ cC cG cB ad) _) rfl (by decide) fX6_offerTwo_28 rfl dX6_offerTwo_11 ?_
    refine k_icmp_lt (tgt := 33) K dX6_offerTwo_14 (by decide) (fun q => ?_) (fun q => ?_)
    · have h := if_t q h
      exact k_sub [0, 1, 2] rfl (wX6_offerTwo_33 K hn hR _ _ _ h)
    · have h := if_f q h
      refine k_iload_n K dX6_offerTwo_17 1 rfl ?_
      refine k_aload_n K dX6_offerTwo_18 0 rfl ?_
      refine k_get K 61 6 1 iX6_offerTwo_X6 (Nat.le_of_ble_eq_true rfl) ((mS_61 cI cZ cC cG cB ad) _) rfl (by decide) fX6_offerTwo_28 rfl dX6_offerTwo_19 ?_
      refine k_icmp_ne (tgt := 48) K dX6_offerTwo_22 (by decide) (fun q => ?_) (fun q => ?_)
      · have h := if_f q h
        exact ret_v hR h dX6_offerTwo_48
      · have h := if_t q h
        refine k_iload_n K dX6_offerTwo_25 2 rfl ?_
        refine k_aload_n K dX6_offerTwo_26 0 rfl ?_
        refine k_get K 61 6 2 iX6_offerTwo_X6 (Nat.le_of_ble_eq_true rfl) ((mS_61 cI cZ cC cG cB ad) _) rfl (by decide) fX6_offerTwo_31 rfl dX6_offerTwo_27 ?_
        refine k_icmp_ge (tgt := 48) K dX6_offerTwo_30 (by decide) (fun q => ?_) (fun q => ?_)
        · have h := if_f q h
          exact ret_v hR h dX6_offerTwo_48
        · have h := if_t q h
          exact k_sub [0, 1, 2] rfl (wX6_offerTwo_33 K hn hR _ _ _ h)
-- X6_seekSecond (3, 84)
theorem iX6_seekSecond_X6 : ∀ w ∈ wsX60, w ∈ wsX6_seekSecond := fun _ h => List.mem_cons_of_mem _ (List.mem_append_left _ (List.mem_append_left _ (List.mem_append_left _ (List.mem_append_right _ h))))
theorem iX6_seekSecond_X8 : ∀ w ∈ wsX80, w ∈ wsX6_seekSecond := fun _ h => List.mem_cons_of_mem _ (List.mem_append_left _ (List.mem_append_left _ (List.mem_append_right _ h)))
theorem fX6_seekSecond_18 : Cond.fieldLink RX6 18 "SlopeCoins$PlankSearch" "withOne" "LSlopeCoins$Roll;" ∈ wsX6_seekSecond := by decide +kernel
theorem fX6_seekSecond_21 : Cond.fieldLink RX6 21 "SlopeCoins$PlankSearch" "withTwo" "LSlopeCoins$Roll;" ∈ wsX6_seekSecond := by decide +kernel
theorem fX6_seekSecond_38 : Cond.fieldLink RX6 38 "SlopeCoins$Roll" "at" "I" ∈ wsX6_seekSecond := by decide +kernel
theorem fX6_seekSecond_41 : Cond.fieldLink RX6 41 "SlopeCoins$Roll" "steps" "I" ∈ wsX6_seekSecond := by decide +kernel
theorem fX6_seekSecond_44 : Cond.fieldLink RX6 44 "SlopeCoins$Roll" "crossed" "[I" ∈ wsX6_seekSecond := by decide +kernel
set_option maxRecDepth 100000 in
set_option maxHeartbeats 4000000 in
theorem wX6_seekSecond_76 {l : Launch} {D : va_G} {cI cZ cC cG cB : ClassId} {ad : Nat → Nat} {a : Program × Env × State × MethodId} {b : Array Value × List Frame × Method × Code × (State → Prop) × Nat} {A : Nat → Prop} {rc : Int32 → Int32 → Int32 → Int32 → Int32 → St → Option (Int32 × St)} (K : KS (GS l 3 84 D cI cZ cC cG cB ad a b A) cX6_seekSecond RX6 wsX6_seekSecond none) (hn : x_n (GS l 3 84 D cI cZ cC cG cB ad a b A) = 9) {res : (Int32 × St)} (hR : HRv (GS l 3 84 D cI cZ cC cG cB ad a b A) cX6_seekSecond res) (hrc : ∀ (v3 : Int32) (v4 : Int32) (v5 : Int32) (v6 : Int32) (v7 : Int32) (σ : St), rc v3 v4 v5 v6 v7 σ = some res → Wk (GS l 3 84 D cI cZ cC cG cB ad a b A) 3 [(0, .ref (ad 61)), (1, .ref (ad 10)), (2, .ref (ad 26)), (3, .int v3), (4, .int v4), (5, .int v5), (6, .int v6), (7, .int v7)] [] σ) : ∀ (v3 : Int32), ∀ (v4 : Int32), ∀ (v5 : Int32), ∀ (v6 : Int32), ∀ (v7 : Int32), ∀ (v8 : Int32), ∀ (σ : St), mX6_seekSecond_76 rc v3 v4 v5 v6 v7 v8 σ = some res → Wk (GS l 3 84 D cI cZ cC cG cB ad a b A) 76 [(0, .ref (ad 61)), (1, .ref (ad 10)), (2, .ref (ad 26)), (3, .int v3), (4, .int v4), (5, .int v5), (6, .int v6), (7, .int v7), (8, .int v8)] [] σ := by
  intro v3 v4 v5 v6 v7 v8 σ h
  unfold mX6_seekSecond_76 at h
  refine k_aload_n K dX6_seekSecond_76 1 rfl ?_
  refine k_aload_n K dX6_seekSecond_77 2 rfl ?_
  refine k_iload K dX6_seekSecond_78 8 rfl ?_
  obtain ⟨⟨r9, s10⟩, e11, h⟩ := bd_some h
  dsimp only at h
  refine k_callSv K (ctX6_turnSide e11) (va_cwS 3 K.ts gX6_seekSecond_X6_turnSide rfl rfl rfl hSX6_turnSide ⟨Nat.le_of_ble_eq_true rfl, Nat.le_of_ble_eq_true rfl⟩) rfl rfl (Nat.le_of_ble_eq_true rfl) dX6_seekSecond_80 ?_
  have h := lt_some h
  refine k_iinc (lv' := [(7, _), (0, _), (1, _), (2, _), (3, _), (4, _), (5, _), (6, _), (8, _)]) K dX6_seekSecond_83 7 rfl (v := _ + 1) (by rfl) (by rw [hn]; decide) rfl ?_
  refine k_goto (tgt := 3) K dX6_seekSecond_86 (by decide) ?_
  exact k_sub [1, 2, 3, 4, 5, 6, 7, 0] rfl (hrc _ _ _ _ _ _ h)
set_option maxRecDepth 100000 in
set_option maxHeartbeats 4000000 in
theorem wX6_seekSecond_3 {l : Launch} {D : va_G} {cI cZ cC cG cB : ClassId} {ad : Nat → Nat} {a : Program × Env × State × MethodId} {b : Array Value × List Frame × Method × Code × (State → Prop) × Nat} {A : Nat → Prop} (K : KS (GS l 3 84 D cI cZ cC cG cB ad a b A) cX6_seekSecond RX6 wsX6_seekSecond none) (hn : x_n (GS l 3 84 D cI cZ cC cG cB ad a b A) = 9) {res : (Int32 × St)} (hR : HRv (GS l 3 84 D cI cZ cC cG cB ad a b A) cX6_seekSecond res) : ∀ (n : Nat) (v3 : Int32) (v4 : Int32) (v5 : Int32) (v6 : Int32) (v7 : Int32) (σ : St), mX6_seekSecond_3 n v3 v4 v5 v6 v7 σ = some res → Wk (GS l 3 84 D cI cZ cC cG cB ad a b A) 3 [(0, .ref (ad 61)), (1, .ref (ad 10)), (2, .ref (ad 26)), (3, .int v3), (4, .int v4), (5, .int v5), (6, .int v6), (7, .int v7)] [] σ := by
  intro n
  induction n with
  | zero => intro v3 v4 v5 v6 v7 σ h; cases h
  | succ n ih =>
    intro v3 v4 v5 v6 v7 σ h
    unfold mX6_seekSecond_3 at h
    refine k_iload K dX6_seekSecond_3 7 rfl ?_
    refine k_aload_n K dX6_seekSecond_5 0 rfl ?_
    refine k_get K 61 6 4 iX6_seekSecond_X6 (Nat.le_of_ble_eq_true rfl) ((mS_61 cI cZ cC cG cB ad) _) rfl (by decide) fX6_seekSecond_18 rfl dX6_seekSecond_6 ?_
    refine k_get K 64 8 2 iX6_seekSecond_X8 (Nat.le_of_ble_eq_true rfl) ((mS_64 cI cZ cC cG cB ad) _) rfl (by decide) fX6_seekSecond_41 rfl dX6_seekSecond_9 ?_
    refine k_icmp_ge (tgt := 89) K dX6_seekSecond_12 (by decide) (fun q => ?_) (fun q => ?_)
    · have h := if_f q h
      exact ret_v hR h dX6_seekSecond_89
    · have h := if_t q h
      refine k_aload_n K dX6_seekSecond_15 0 rfl ?_
      refine k_get K 61 6 4 iX6_seekSecond_X6 (Nat.le_of_ble_eq_true rfl) ((mS_61 cI cZ cC cG cB ad) _) rfl (by decide) fX6_seekSecond_18 rfl dX6_seekSecond_16 ?_
      refine k_get K 64 8 4 iX6_seekSecond_X8 (Nat.le_of_ble_eq_true rfl) ((mS_64 cI cZ cC cG cB ad) _) rfl (by decide) fX6_seekSecond_44 rfl dX6_seekSecond_19 ?_
      refine k_iload K dX6_seekSecond_22 7 rfl ?_
      obtain ⟨g1, h⟩ := gd_some h
      refine k_ild K 65 0 (Nat.le_of_ble_eq_true rfl) ((mS_65 cI cZ cC cG cB ad) _) rfl g1 dX6_seekSecond_24 ?_
      have h := lt_some h
      refine k_istore (lv' := [(8, _), (0, _), (1, _), (2, _), (3, _), (4, _), (5, _), (6, _), (7, _)]) K dX6_seekSecond_25 (by rw [hn]; decide) rfl ?_
      refine k_aload_n K dX6_seekSecond_27 2 rfl ?_
      refine k_aload_n K dX6_seekSecond_28 3 rfl ?_
      refine k_iload K dX6_seekSecond_29 0 rfl ?_
      obtain ⟨⟨r3, s4⟩, e5, h⟩ := bd_some h
      dsimp only at h
      refine k_callSv K (ctX6_turnSide e5) (va_cwS 3 K.ts gX6_seekSecond_X6_turnSide rfl rfl rfl hSX6_turnSide ⟨Nat.le_of_ble_eq_true rfl, Nat.le_of_ble_eq_true rfl⟩) rfl rfl (Nat.le_of_ble_eq_true rfl) dX6_seekSecond_31 ?_
      refine k_aload_n K dX6_seekSecond_34 1 rfl ?_
      refine k_get K 61 6 5 iX6_seekSecond_X6 (Nat.le_of_ble_eq_true rfl) ((mS_61 cI cZ cC cG cB ad) _) rfl (by decide) fX6_seekSecond_21 rfl dX6_seekSecond_35 ?_
      refine k_aload_n K dX6_seekSecond_38 2 rfl ?_
      refine k_aload_n K dX6_seekSecond_39 3 rfl ?_
      refine k_iload_n K dX6_seekSecond_40 4 rfl ?_
      refine k_iload K dX6_seekSecond_41 5 rfl ?_
      obtain ⟨⟨r6, s7⟩, e8, h⟩ := bd_some h
      dsimp only at h
      refine k_callVv K 66 8 (Nat.le_of_ble_eq_true rfl) ((mS_66 cI cZ cC cG cB ad) _) rfl (ctX8_goAs (by decide) e8) (cwV 4 K.ts gX6_seekSecond_X8_goAs rfl rfl rfl hVX8_goAs ⟨Nat.le_of_ble_eq_true rfl, Nat.le_of_ble_eq_true rfl⟩) rfl rfl (Nat.le_of_ble_eq_true rfl) dX6_seekSecond_43 ?_
      refine k_aload_n K dX6_seekSecond_46 1 rfl ?_
      refine k_get K 61 6 5 iX6_seekSecond_X6 (Nat.le_of_ble_eq_true rfl) ((mS_61 cI cZ cC cG cB ad) _) rfl (by decide) fX6_seekSecond_21 rfl dX6_seekSecond_47 ?_
      refine k_get K 66 8 0 iX6_seekSecond_X8 (Nat.le_of_ble_eq_true rfl) ((mS_66 cI cZ cC cG cB ad) _) rfl (by decide) fX6_seekSecond_38 rfl dX6_seekSecond_50 ?_
      refine k_iload K dX6_seekSecond_53 6 rfl ?_
      refine k_icmp_ne (tgt := 76) K dX6_seekSecond_55 (by decide) (fun q => ?_) (fun q => ?_)
      · have h := if_f q h
        exact k_sub [1, 2, 3, 4, 5, 6, 7, 8, 0] rfl (wX6_seekSecond_76 K hn hR ih _ _ _ _ _ _ _ h)
      · have h := if_t q h
        refine k_aload_n K dX6_seekSecond_58 1 rfl ?_
        refine k_iload K dX6_seekSecond_59 7 rfl ?_
        refine k_iload K dX6_seekSecond_61 0 rfl ?_
        refine k_min K (by decide +kernel) (by decide +kernel) (by decide +kernel) (by decide +kernel) (Nat.le_of_ble_eq_true rfl) (Nat.le_of_ble_eq_true rfl) dX6_seekSecond_63 ?_
        refine k_iload K dX6_seekSecond_66 7 rfl ?_
        refine k_iload K dX6_seekSecond_68 0 rfl ?_
        refine k_max K (by decide +kernel) (by decide +kernel) (by decide +kernel) (by decide +kernel) (Nat.le_of_ble_eq_true rfl) (Nat.le_of_ble_eq_true rfl) dX6_seekSecond_70 ?_
        obtain ⟨⟨r13, s14⟩, e15, h⟩ := bd_some h
        dsimp only at h
        refine k_callVv K 61 6 (Nat.le_of_ble_eq_true rfl) ((mS_61 cI cZ cC cG cB ad) _) rfl (ctX6_offerTwo e15) (cwV 2 K.ts gX6_seekSecond_X6_offerTwo rfl rfl rfl hVX6_offerTwo ⟨Nat.le_of_ble_eq_true rfl, Nat.le_of_ble_eq_true rfl⟩) rfl rfl (Nat.le_of_ble_eq_true rfl) dX6_seekSecond_73 ?_
        exact k_sub [1, 2, 3, 4, 5, 6, 7, 8, 0] rfl (wX6_seekSecond_76 K hn hR ih _ _ _ _ _ _ _ h)
set_option maxRecDepth 100000 in
set_option maxHeartbeats 4000000 in
theorem ctX6_seekSecond {l : Launch} {D : va_G} {cI cZ cC cG cB : ClassId} {ad : Nat → Nat} {v3 : Int32} {v4 : Int32} {v5 : Int32} {v6 : Int32} {σ : St} {res : (Int32 × St)} (h : mX6_seekSecond v3 v4 v5 v6 σ = some res) : Cv l yX6_seekSecond wsX6_seekSecond 3 84 D vwCl (tysS cI cZ cC cG cB) nwS (mkS cI cZ cC cG cB ad) ad 75 [.ref (ad 61), .ref (ad 10), .ref (ad 26), .int v3, .int v4, .int v5, .int v6] σ res := by
  refine c_void (cc := cX6_seekSecond) (maxL := 9) (by decide) rfl (Nat.le_of_ble_eq_true rfl) fun a b hn K hR => ?_
  unfold mX6_seekSecond at h
  have K : KS (GS l 3 84 D cI cZ cC cG cB ad a b (w_A ad 75)) cX6_seekSecond RX6 wsX6_seekSecond none := K
  have hn : x_n (GS l 3 84 D cI cZ cC cG cB ad a b (w_A ad 75)) = 9 := hn
  refine k_sub [0, 1, 2, 3, 4, 5, 6] rfl ?_
  refine k_iconst (x := 0) K dX6_seekSecond_0 (by decide) ?_
  refine k_istore (lv' := [(7, _), (0, _), (1, _), (2, _), (3, _), (4, _), (5, _), (6, _)]) K dX6_seekSecond_1 (by rw [hn]; decide) rfl ?_
  exact k_sub [1, 2, 3, 4, 5, 6, 7, 0] rfl (wX6_seekSecond_3 K hn hR FU _ _ _ _ _ _ h)
-- X6_offerOne (0, 0)
theorem iX6_offerOne_X6 : ∀ w ∈ wsX60, w ∈ wsX6_offerOne := fun _ h => List.mem_cons_of_mem _ (List.mem_append_right _ h)
theorem fX6_offerOne_24 : Cond.fieldLink RX6 24 "SlopeCoins$PlankSearch" "fewest" "I" ∈ wsX6_offerOne := by decide +kernel
theorem fX6_offerOne_28 : Cond.fieldLink RX6 28 "SlopeCoins$PlankSearch" "first" "I" ∈ wsX6_offerOne := by decide +kernel
theorem fX6_offerOne_31 : Cond.fieldLink RX6 31 "SlopeCoins$PlankSearch" "second" "I" ∈ wsX6_offerOne := by decide +kernel
set_option maxRecDepth 100000 in
set_option maxHeartbeats 4000000 in
theorem wX6_offerOne_16 {l : Launch} {D : va_G} {cI cZ cC cG cB : ClassId} {ad : Nat → Nat} {a : Program × Env × State × MethodId} {b : Array Value × List Frame × Method × Code × (State → Prop) × Nat} {A : Nat → Prop} (K : KS (GS l 0 0 D cI cZ cC cG cB ad a b A) cX6_offerOne RX6 wsX6_offerOne none) (hn : x_n (GS l 0 0 D cI cZ cC cG cB ad a b A) = 2) {res : (Int32 × St)} (hR : HRv (GS l 0 0 D cI cZ cC cG cB ad a b A) cX6_offerOne res) : ∀ (v1 : Int32), ∀ (σ : St), mX6_offerOne_16 v1 σ = some res → Wk (GS l 0 0 D cI cZ cC cG cB ad a b A) 16 [(0, .ref (ad 61)), (1, .int v1)] [] σ := by
  intro v1 σ h
  unfold mX6_offerOne_16 at h
  refine k_aload_n K dX6_offerOne_16 0 rfl ?_
  refine k_iconst (x := 1) K dX6_offerOne_17 (by decide) ?_
  have h := lt_some h
  refine k_putI K 61 6 0 tyX6 tyX6_ok nmX6 iX6_offerOne_X6 (Nat.le_of_ble_eq_true rfl) ((mS_61 cI cZ cC cG cB ad) _) rfl (by decide) fX6_offerOne_24 rfl (by decide +kernel) (Nat.le_of_ble_eq_true rfl) (pS_61_0 cI cZ cC cG cB ad _ _) dX6_offerOne_18 ?_
  refine k_aload_n K dX6_offerOne_21 0 rfl ?_
  refine k_iload_n K dX6_offerOne_22 1 rfl ?_
  have h := lt_some h
  refine k_putI K 61 6 1 tyX6 tyX6_ok nmX6 iX6_offerOne_X6 (Nat.le_of_ble_eq_true rfl) ((mS_61 cI cZ cC cG cB ad) _) rfl (by decide) fX6_offerOne_28 rfl (by decide +kernel) (Nat.le_of_ble_eq_true rfl) (pS_61_1 cI cZ cC cG cB ad _ _) dX6_offerOne_23 ?_
  refine k_aload_n K dX6_offerOne_26 0 rfl ?_
  refine k_iconst (x := (-1)) K dX6_offerOne_27 (by decide) ?_
  have h := lt_some h
  refine k_putI K 61 6 2 tyX6 tyX6_ok nmX6 iX6_offerOne_X6 (Nat.le_of_ble_eq_true rfl) ((mS_61 cI cZ cC cG cB ad) _) rfl (by decide) fX6_offerOne_31 rfl (by decide +kernel) (Nat.le_of_ble_eq_true rfl) (pS_61_2 cI cZ cC cG cB ad _ _) dX6_offerOne_28 ?_
  exact ret_v hR h dX6_offerOne_31
set_option maxRecDepth 100000 in
set_option maxHeartbeats 4000000 in
theorem ctX6_offerOne {l : Launch} {D : va_G} {cI cZ cC cG cB : ClassId} {ad : Nat → Nat} {v1 : Int32} {σ : St} {res : (Int32 × St)} (h : mX6_offerOne v1 σ = some res) : Cv l yX6_offerOne wsX6_offerOne 0 0 D vwCl (tysS cI cZ cC cG cB) nwS (mkS cI cZ cC cG cB ad) ad 75 [.ref (ad 61), .int v1] σ res := by
  refine c_void (cc := cX6_offerOne) (maxL := 2) (by decide) rfl (Nat.le_of_ble_eq_true rfl) fun a b hn K hR => ?_
  unfold mX6_offerOne at h
  have K : KS (GS l 0 0 D cI cZ cC cG cB ad a b (w_A ad 75)) cX6_offerOne RX6 wsX6_offerOne none := K
  have hn : x_n (GS l 0 0 D cI cZ cC cG cB ad a b (w_A ad 75)) = 2 := hn
  refine k_sub [0, 1] rfl ?_
  refine k_aload_n K dX6_offerOne_0 0 rfl ?_
  refine k_get K 61 6 0 iX6_offerOne_X6 (Nat.le_of_ble_eq_true rfl) ((mS_61 cI cZ cC cG cB ad) _) rfl (by decide) fX6_offerOne_24 rfl dX6_offerOne_1 ?_
  refine k_iconst (x := 1) K dX6_offerOne_4 (by decide) ?_
  refine k_icmp_ne (tgt := 16) K dX6_offerOne_5 (by decide) (fun q => ?_) (fun q => ?_)
  · have h := if_f q h
    exact k_sub [0, 1] rfl (wX6_offerOne_16 K hn hR _ _ h)
  · have h := if_t q h
    refine k_iload_n K dX6_offerOne_8 1 rfl ?_
    refine k_aload_n K dX6_offerOne_9 0 rfl ?_
    refine k_get K 61 6 1 iX6_offerOne_X6 (Nat.le_of_ble_eq_true rfl) ((mS_61 cI cZ cC cG cB ad) _) rfl (by decide) fX6_offerOne_28 rfl dX6_offerOne_10 ?_
    refine k_icmp_ge (tgt := 31) K dX6_offerOne_13 (by decide) (fun q => ?_) (fun q => ?_)
    · have h := if_f q h
      exact ret_v hR h dX6_offerOne_31
    · have h := if_t q h
      exact k_sub [0, 1] rfl (wX6_offerOne_16 K hn hR _ _ h)
-- X6_seek (4, 112)
theorem iX6_seek_X6 : ∀ w ∈ wsX60, w ∈ wsX6_seek := fun _ h => List.mem_cons_of_mem _ (List.mem_append_left _ (List.mem_append_left _ (List.mem_append_left _ (List.mem_append_right _ h))))
theorem iX6_seek_X8 : ∀ w ∈ wsX80, w ∈ wsX6_seek := fun _ h => List.mem_cons_of_mem _ (List.mem_append_left _ (List.mem_append_left _ (List.mem_append_right _ h)))
theorem fX6_seek_12 : Cond.fieldLink RX6 12 "SlopeCoins$PlankSearch" "plain" "LSlopeCoins$Roll;" ∈ wsX6_seek := by decide +kernel
theorem fX6_seek_18 : Cond.fieldLink RX6 18 "SlopeCoins$PlankSearch" "withOne" "LSlopeCoins$Roll;" ∈ wsX6_seek := by decide +kernel
theorem fX6_seek_24 : Cond.fieldLink RX6 24 "SlopeCoins$PlankSearch" "fewest" "I" ∈ wsX6_seek := by decide +kernel
theorem fX6_seek_28 : Cond.fieldLink RX6 28 "SlopeCoins$PlankSearch" "first" "I" ∈ wsX6_seek := by decide +kernel
theorem fX6_seek_31 : Cond.fieldLink RX6 31 "SlopeCoins$PlankSearch" "second" "I" ∈ wsX6_seek := by decide +kernel
theorem fX6_seek_38 : Cond.fieldLink RX6 38 "SlopeCoins$Roll" "at" "I" ∈ wsX6_seek := by decide +kernel
theorem fX6_seek_41 : Cond.fieldLink RX6 41 "SlopeCoins$Roll" "steps" "I" ∈ wsX6_seek := by decide +kernel
theorem fX6_seek_44 : Cond.fieldLink RX6 44 "SlopeCoins$Roll" "crossed" "[I" ∈ wsX6_seek := by decide +kernel
set_option maxRecDepth 100000 in
set_option maxHeartbeats 4000000 in
theorem wX6_seek_134 {l : Launch} {D : va_G} {cI cZ cC cG cB : ClassId} {ad : Nat → Nat} {a : Program × Env × State × MethodId} {b : Array Value × List Frame × Method × Code × (State → Prop) × Nat} {A : Nat → Prop} {rc : Int32 → Int32 → Int32 → Int32 → St → Option (Int32 × St)} (K : KS (GS l 4 112 D cI cZ cC cG cB ad a b A) cX6_seek RX6 wsX6_seek none) (hn : x_n (GS l 4 112 D cI cZ cC cG cB ad a b A) = 8) {res : (Int32 × St)} (hR : HRv (GS l 4 112 D cI cZ cC cG cB ad a b A) cX6_seek res) (hrc : ∀ (v3 : Int32) (v4 : Int32) (v5 : Int32) (v6 : Int32) (σ : St), rc v3 v4 v5 v6 σ = some res → Wk (GS l 4 112 D cI cZ cC cG cB ad a b A) 49 [(0, .ref (ad 61)), (1, .ref (ad 10)), (2, .ref (ad 26)), (3, .int v3), (4, .int v4), (5, .int v5), (6, .int v6)] [] σ) : ∀ (v3 : Int32), ∀ (v4 : Int32), ∀ (v5 : Int32), ∀ (v6 : Int32), ∀ (v7 : Int32), ∀ (σ : St), mX6_seek_134 rc v3 v4 v5 v6 v7 σ = some res → Wk (GS l 4 112 D cI cZ cC cG cB ad a b A) 134 [(0, .ref (ad 61)), (1, .ref (ad 10)), (2, .ref (ad 26)), (3, .int v3), (4, .int v4), (5, .int v5), (6, .int v6), (7, .int v7)] [] σ := by
  intro v3 v4 v5 v6 v7 σ h
  unfold mX6_seek_134 at h
  refine k_aload_n K dX6_seek_134 1 rfl ?_
  refine k_aload_n K dX6_seek_135 2 rfl ?_
  refine k_iload K dX6_seek_136 7 rfl ?_
  obtain ⟨⟨r15, s16⟩, e17, h⟩ := bd_some h
  dsimp only at h
  refine k_callSv K (ctX6_turnSide e17) (va_cwS 3 K.ts gX6_seek_X6_turnSide rfl rfl rfl hSX6_turnSide ⟨Nat.le_of_ble_eq_true rfl, Nat.le_of_ble_eq_true rfl⟩) rfl rfl (Nat.le_of_ble_eq_true rfl) dX6_seek_138 ?_
  have h := lt_some h
  refine k_iinc (lv' := [(6, _), (0, _), (1, _), (2, _), (3, _), (4, _), (5, _), (7, _)]) K dX6_seek_141 6 rfl (v := _ + 1) (by rfl) (by rw [hn]; decide) rfl ?_
  refine k_goto (tgt := 49) K dX6_seek_144 (by decide) ?_
  exact k_sub [1, 2, 3, 4, 5, 6, 0] rfl (hrc _ _ _ _ _ h)
set_option maxRecDepth 100000 in
set_option maxHeartbeats 4000000 in
theorem wX6_seek_49 {l : Launch} {D : va_G} {cI cZ cC cG cB : ClassId} {ad : Nat → Nat} {a : Program × Env × State × MethodId} {b : Array Value × List Frame × Method × Code × (State → Prop) × Nat} {A : Nat → Prop} (K : KS (GS l 4 112 D cI cZ cC cG cB ad a b A) cX6_seek RX6 wsX6_seek none) (hn : x_n (GS l 4 112 D cI cZ cC cG cB ad a b A) = 8) {res : (Int32 × St)} (hR : HRv (GS l 4 112 D cI cZ cC cG cB ad a b A) cX6_seek res) : ∀ (n : Nat) (v3 : Int32) (v4 : Int32) (v5 : Int32) (v6 : Int32) (σ : St), mX6_seek_49 n v3 v4 v5 v6 σ = some res → Wk (GS l 4 112 D cI cZ cC cG cB ad a b A) 49 [(0, .ref (ad 61)), (1, .ref (ad 10)), (2, .ref (ad 26)), (3, .int v3), (4, .int v4), (5, .int v5), (6, .int v6)] [] σ := by
  intro n
  induction n with
  | zero => intro v3 v4 v5 v6 σ h; cases h
  | succ n ih =>
    intro v3 v4 v5 v6 σ h
    unfold mX6_seek_49 at h
    refine k_iload K dX6_seek_49 6 rfl ?_
    refine k_aload_n K dX6_seek_51 0 rfl ?_
    refine k_get K 61 6 3 iX6_seek_X6 (Nat.le_of_ble_eq_true rfl) ((mS_61 cI cZ cC cG cB ad) _) rfl (by decide) fX6_seek_12 rfl dX6_seek_52 ?_
    refine k_get K 62 8 2 iX6_seek_X8 (Nat.le_of_ble_eq_true rfl) ((mS_62 cI cZ cC cG cB ad) _) rfl (by decide) fX6_seek_41 rfl dX6_seek_55 ?_
    refine k_icmp_ge (tgt := 147) K dX6_seek_58 (by decide) (fun q => ?_) (fun q => ?_)
    · have h := if_f q h
      exact ret_v hR h dX6_seek_147
    · have h := if_t q h
      refine k_aload_n K dX6_seek_61 0 rfl ?_
      refine k_get K 61 6 3 iX6_seek_X6 (Nat.le_of_ble_eq_true rfl) ((mS_61 cI cZ cC cG cB ad) _) rfl (by decide) fX6_seek_12 rfl dX6_seek_62 ?_
      refine k_get K 62 8 4 iX6_seek_X8 (Nat.le_of_ble_eq_true rfl) ((mS_62 cI cZ cC cG cB ad) _) rfl (by decide) fX6_seek_44 rfl dX6_seek_65 ?_
      refine k_iload K dX6_seek_68 6 rfl ?_
      obtain ⟨g7, h⟩ := gd_some h
      refine k_ild K 63 0 (Nat.le_of_ble_eq_true rfl) ((mS_63 cI cZ cC cG cB ad) _) rfl g7 dX6_seek_70 ?_
      have h := lt_some h
      refine k_istore (lv' := [(7, _), (0, _), (1, _), (2, _), (3, _), (4, _), (5, _), (6, _)]) K dX6_seek_71 (by rw [hn]; decide) rfl ?_
      refine k_aload_n K dX6_seek_73 2 rfl ?_
      refine k_aload_n K dX6_seek_74 3 rfl ?_
      refine k_iload K dX6_seek_75 0 rfl ?_
      obtain ⟨⟨r9, s10⟩, e11, h⟩ := bd_some h
      dsimp only at h
      refine k_callSv K (ctX6_turnSide e11) (va_cwS 3 K.ts gX6_seek_X6_turnSide rfl rfl rfl hSX6_turnSide ⟨Nat.le_of_ble_eq_true rfl, Nat.le_of_ble_eq_true rfl⟩) rfl rfl (Nat.le_of_ble_eq_true rfl) dX6_seek_77 ?_
      refine k_aload_n K dX6_seek_80 1 rfl ?_
      refine k_get K 61 6 4 iX6_seek_X6 (Nat.le_of_ble_eq_true rfl) ((mS_61 cI cZ cC cG cB ad) _) rfl (by decide) fX6_seek_18 rfl dX6_seek_81 ?_
      refine k_aload_n K dX6_seek_84 2 rfl ?_
      refine k_aload_n K dX6_seek_85 3 rfl ?_
      refine k_iload_n K dX6_seek_86 4 rfl ?_
      refine k_iload K dX6_seek_87 5 rfl ?_
      obtain ⟨⟨r12, s13⟩, e14, h⟩ := bd_some h
      dsimp only at h
      refine k_callVv K 64 8 (Nat.le_of_ble_eq_true rfl) ((mS_64 cI cZ cC cG cB ad) _) rfl (ctX8_goAs (by decide) e14) (cwV 4 K.ts gX6_seek_X8_goAs rfl rfl rfl hVX8_goAs ⟨Nat.le_of_ble_eq_true rfl, Nat.le_of_ble_eq_true rfl⟩) rfl rfl (Nat.le_of_ble_eq_true rfl) dX6_seek_89 ?_
      refine k_aload_n K dX6_seek_92 1 rfl ?_
      refine k_get K 61 6 4 iX6_seek_X6 (Nat.le_of_ble_eq_true rfl) ((mS_61 cI cZ cC cG cB ad) _) rfl (by decide) fX6_seek_18 rfl dX6_seek_93 ?_
      refine k_get K 64 8 0 iX6_seek_X8 (Nat.le_of_ble_eq_true rfl) ((mS_64 cI cZ cC cG cB ad) _) rfl (by decide) fX6_seek_38 rfl dX6_seek_96 ?_
      refine k_iload K dX6_seek_99 6 rfl ?_
      refine k_icmp_ne (tgt := 113) K dX6_seek_101 (by decide) (fun q => ?_) (fun q => ?_)
      · have h := if_f q h
        refine k_aload_n K dX6_seek_113 1 rfl ?_
        refine k_get K 61 6 0 iX6_seek_X6 (Nat.le_of_ble_eq_true rfl) ((mS_61 cI cZ cC cG cB ad) _) rfl (by decide) fX6_seek_24 rfl dX6_seek_114 ?_
        refine k_iconst (x := 1) K dX6_seek_117 (by decide) ?_
        refine k_icmp_eq (tgt := 134) K dX6_seek_118 (by decide) (fun q => ?_) (fun q => ?_)
        · have h := if_t q h
          exact k_sub [1, 2, 3, 4, 5, 6, 7, 0] rfl (wX6_seek_134 K hn hR ih _ _ _ _ _ _ h)
        · have h := if_f q h
          refine k_aload_n K dX6_seek_121 1 rfl ?_
          refine k_aload_n K dX6_seek_122 2 rfl ?_
          refine k_aload_n K dX6_seek_123 3 rfl ?_
          refine k_iload_n K dX6_seek_124 4 rfl ?_
          refine k_iload K dX6_seek_125 5 rfl ?_
          refine k_iload K dX6_seek_127 6 rfl ?_
          refine k_iload K dX6_seek_129 0 rfl ?_
          obtain ⟨⟨r19, s20⟩, e21, h⟩ := bd_some h
          dsimp only at h
          refine k_callVv K 61 6 (Nat.le_of_ble_eq_true rfl) ((mS_61 cI cZ cC cG cB ad) _) rfl (ctX6_seekSecond e21) (cwV 6 K.ts gX6_seek_X6_seekSecond rfl rfl rfl hVX6_seekSecond ⟨Nat.le_of_ble_eq_true rfl, Nat.le_of_ble_eq_true rfl⟩) rfl rfl (Nat.le_of_ble_eq_true rfl) dX6_seek_131 ?_
          exact k_sub [1, 2, 3, 4, 5, 6, 7, 0] rfl (wX6_seek_134 K hn hR ih _ _ _ _ _ _ h)
      · have h := if_t q h
        refine k_aload_n K dX6_seek_104 1 rfl ?_
        refine k_iload K dX6_seek_105 0 rfl ?_
        obtain ⟨⟨r22, s23⟩, e24, h⟩ := bd_some h
        dsimp only at h
        refine k_callVv K 61 6 (Nat.le_of_ble_eq_true rfl) ((mS_61 cI cZ cC cG cB ad) _) rfl (ctX6_offerOne e24) (cwV 1 K.ts gX6_seek_X6_offerOne rfl rfl rfl hVX6_offerOne ⟨Nat.le_of_ble_eq_true rfl, Nat.le_of_ble_eq_true rfl⟩) rfl rfl (Nat.le_of_ble_eq_true rfl) dX6_seek_107 ?_
        refine k_goto (tgt := 134) K dX6_seek_110 (by decide) ?_
        exact k_sub [1, 2, 3, 4, 5, 6, 7, 0] rfl (wX6_seek_134 K hn hR ih _ _ _ _ _ _ h)
set_option maxRecDepth 100000 in
set_option maxHeartbeats 4000000 in
theorem ctX6_seek {l : Launch} {D : va_G} {cI cZ cC cG cB : ClassId} {ad : Nat → Nat} {v3 : Int32} {v4 : Int32} {v5 : Int32} {σ : St} {res : (Int32 × St)} (h : mX6_seek v3 v4 v5 σ = some res) : Cv l yX6_seek wsX6_seek 4 112 D vwCl (tysS cI cZ cC cG cB) nwS (mkS cI cZ cC cG cB ad) ad 75 [.ref (ad 61), .ref (ad 10), .ref (ad 26), .int v3, .int v4, .int v5] σ res := by
  refine c_void (cc := cX6_seek) (maxL := 8) (by decide) rfl (Nat.le_of_ble_eq_true rfl) fun a b hn K hR => ?_
  unfold mX6_seek at h
  have K : KS (GS l 4 112 D cI cZ cC cG cB ad a b (w_A ad 75)) cX6_seek RX6 wsX6_seek none := K
  have hn : x_n (GS l 4 112 D cI cZ cC cG cB ad a b (w_A ad 75)) = 8 := hn
  refine k_sub [0, 1, 2, 3, 4, 5] rfl ?_
  refine k_aload_n K dX6_seek_0 0 rfl ?_
  refine k_bipush (x := (-9)) K dX6_seek_1 (by decide) ?_
  have h := lt_some h
  refine k_putI K 61 6 0 tyX6 tyX6_ok nmX6 iX6_seek_X6 (Nat.le_of_ble_eq_true rfl) ((mS_61 cI cZ cC cG cB ad) _) rfl (by decide) fX6_seek_24 rfl (by decide +kernel) (Nat.le_of_ble_eq_true rfl) (pS_61_0 cI cZ cC cG cB ad _ _) dX6_seek_3 ?_
  refine k_aload_n K dX6_seek_6 0 rfl ?_
  refine k_iconst (x := (-1)) K dX6_seek_7 (by decide) ?_
  have h := lt_some h
  refine k_putI K 61 6 1 tyX6 tyX6_ok nmX6 iX6_seek_X6 (Nat.le_of_ble_eq_true rfl) ((mS_61 cI cZ cC cG cB ad) _) rfl (by decide) fX6_seek_28 rfl (by decide +kernel) (Nat.le_of_ble_eq_true rfl) (pS_61_1 cI cZ cC cG cB ad _ _) dX6_seek_8 ?_
  refine k_aload_n K dX6_seek_11 0 rfl ?_
  refine k_iconst (x := (-1)) K dX6_seek_12 (by decide) ?_
  have h := lt_some h
  refine k_putI K 61 6 2 tyX6 tyX6_ok nmX6 iX6_seek_X6 (Nat.le_of_ble_eq_true rfl) ((mS_61 cI cZ cC cG cB ad) _) rfl (by decide) fX6_seek_31 rfl (by decide +kernel) (Nat.le_of_ble_eq_true rfl) (pS_61_2 cI cZ cC cG cB ad _ _) dX6_seek_13 ?_
  refine k_aload_n K dX6_seek_16 0 rfl ?_
  refine k_get K 61 6 3 iX6_seek_X6 (Nat.le_of_ble_eq_true rfl) ((mS_61 cI cZ cC cG cB ad) _) rfl (by decide) fX6_seek_12 rfl dX6_seek_17 ?_
  refine k_aload_n K dX6_seek_20 1 rfl ?_
  refine k_aload_n K dX6_seek_21 2 rfl ?_
  refine k_iload_n K dX6_seek_22 3 rfl ?_
  refine k_iload K dX6_seek_23 4 rfl ?_
  obtain ⟨⟨r4, s5⟩, e6, h⟩ := bd_some h
  dsimp only at h
  refine k_callVv K 62 8 (Nat.le_of_ble_eq_true rfl) ((mS_62 cI cZ cC cG cB ad) _) rfl (ctX8_goAs (by decide) e6) (cwV 4 K.ts gX6_seek_X8_goAs rfl rfl rfl hVX8_goAs ⟨Nat.le_of_ble_eq_true rfl, Nat.le_of_ble_eq_true rfl⟩) rfl rfl (Nat.le_of_ble_eq_true rfl) dX6_seek_25 ?_
  refine k_aload_n K dX6_seek_28 0 rfl ?_
  refine k_get K 61 6 3 iX6_seek_X6 (Nat.le_of_ble_eq_true rfl) ((mS_61 cI cZ cC cG cB ad) _) rfl (by decide) fX6_seek_12 rfl dX6_seek_29 ?_
  refine k_get K 62 8 0 iX6_seek_X8 (Nat.le_of_ble_eq_true rfl) ((mS_62 cI cZ cC cG cB ad) _) rfl (by decide) fX6_seek_38 rfl dX6_seek_32 ?_
  refine k_iload K dX6_seek_35 5 rfl ?_
  refine k_icmp_ne (tgt := 46) K dX6_seek_37 (by decide) (fun q => ?_) (fun q => ?_)
  · have h := if_f q h
    refine k_iconst (x := 0) K dX6_seek_46 (by decide) ?_
    refine k_istore (lv' := [(6, _), (0, _), (1, _), (2, _), (3, _), (4, _), (5, _)]) K dX6_seek_47 (by rw [hn]; decide) rfl ?_
    exact k_sub [1, 2, 3, 4, 5, 6, 0] rfl (wX6_seek_49 K hn hR FU _ _ _ _ _ h)
  · have h := if_t q h
    refine k_aload_n K dX6_seek_40 0 rfl ?_
    refine k_iconst (x := 0) K dX6_seek_41 (by decide) ?_
    have h := lt_some h
    refine k_putI K 61 6 0 tyX6 tyX6_ok nmX6 iX6_seek_X6 (Nat.le_of_ble_eq_true rfl) ((mS_61 cI cZ cC cG cB ad) _) rfl (by decide) fX6_seek_24 rfl (by decide +kernel) (Nat.le_of_ble_eq_true rfl) (pS_61_0 cI cZ cC cG cB ad _ _) dX6_seek_42 ?_
    exact ret_v hR h dX6_seek_45

/-! walks, by program -/
theorem hVX1_ask : yX1_ask.cls = RX1 ∧ yX1_ask.cls ≠ "java/lang/invoke/MethodHandle" ∧ yX1_ask.cls ≠ "java/lang/invoke/VarHandle" ∧ (parseMethodDescriptor yX1_ask.desc).map (fun d => d.parameters.length) = some 2 := by decide +kernel
theorem hVX9_ask : yX9_ask.cls = RX9 ∧ yX9_ask.cls ≠ "java/lang/invoke/MethodHandle" ∧ yX9_ask.cls ≠ "java/lang/invoke/VarHandle" ∧ (parseMethodDescriptor yX9_ask.desc).map (fun d => d.parameters.length) = some 2 := by decide +kernel
theorem hVX0_ask : yX0_ask.cls = RX0 ∧ yX0_ask.cls ≠ "java/lang/invoke/MethodHandle" ∧ yX0_ask.cls ≠ "java/lang/invoke/VarHandle" ∧ (parseMethodDescriptor yX0_ask.desc).map (fun d => d.parameters.length) = some 2 := by decide +kernel
theorem hVX10_ask : yX10_ask.cls = RX10 ∧ yX10_ask.cls ≠ "java/lang/invoke/MethodHandle" ∧ yX10_ask.cls ≠ "java/lang/invoke/VarHandle" ∧ (parseMethodDescriptor yX10_ask.desc).map (fun d => d.parameters.length) = some 2 := by decide +kernel
theorem hVX4_ask : yX4_ask.cls = RX4 ∧ yX4_ask.cls ≠ "java/lang/invoke/MethodHandle" ∧ yX4_ask.cls ≠ "java/lang/invoke/VarHandle" ∧ (parseMethodDescriptor yX4_ask.desc).map (fun d => d.parameters.length) = some 2 := by decide +kernel
theorem hVX5_ask : yX5_ask.cls = RX5 ∧ yX5_ask.cls ≠ "java/lang/invoke/MethodHandle" ∧ yX5_ask.cls ≠ "java/lang/invoke/VarHandle" ∧ (parseMethodDescriptor yX5_ask.desc).map (fun d => d.parameters.length) = some 2 := by decide +kernel
theorem hVX11_mark : yX11_mark.cls = RX11 ∧ yX11_mark.cls ≠ "java/lang/invoke/MethodHandle" ∧ yX11_mark.cls ≠ "java/lang/invoke/VarHandle" ∧ (parseMethodDescriptor yX11_mark.desc).map (fun d => d.parameters.length) = some 3 := by decide +kernel
theorem hUX1_ask : yX1_ask.name ≠ "<init>" ∧ (parseMethodDescriptor yX1_ask.desc).map (fun d => d.parameters.length) = some 2 := by decide +kernel
theorem hUX9_ask : yX9_ask.name ≠ "<init>" ∧ (parseMethodDescriptor yX9_ask.desc).map (fun d => d.parameters.length) = some 2 := by decide +kernel
theorem hUX0_ask : yX0_ask.name ≠ "<init>" ∧ (parseMethodDescriptor yX0_ask.desc).map (fun d => d.parameters.length) = some 2 := by decide +kernel
theorem hUX10_ask : yX10_ask.name ≠ "<init>" ∧ (parseMethodDescriptor yX10_ask.desc).map (fun d => d.parameters.length) = some 2 := by decide +kernel
theorem hUX4_ask : yX4_ask.name ≠ "<init>" ∧ (parseMethodDescriptor yX4_ask.desc).map (fun d => d.parameters.length) = some 2 := by decide +kernel
theorem hUX5_ask : yX5_ask.name ≠ "<init>" ∧ (parseMethodDescriptor yX5_ask.desc).map (fun d => d.parameters.length) = some 2 := by decide +kernel
theorem hO_ask : "SlopeCoins$CellKind" ≠ "java/lang/invoke/MethodHandle" ∧ "SlopeCoins$CellKind" ≠ "java/lang/invoke/VarHandle" ∧ (parseMethodDescriptor "(LSlopeCoins;I)I").map (fun d => d.parameters.length) = some 2 := by decide +kernel
theorem nX10_ask_19m : Cond.methodLinkNest RX10 19 yX11_shutWays "SlopeCoins" ∈ nwS := by decide +kernel
-- X1_ask (0, 0)
theorem iX1_ask_X11 : ∀ w ∈ wsX110, w ∈ wsX1_ask := fun _ h => List.mem_cons_of_mem _ (List.mem_append_left _ (List.mem_append_right _ h))
theorem iX1_ask_X3 : ∀ w ∈ wsX30, w ∈ wsX1_ask := fun _ h => List.mem_cons_of_mem _ (List.mem_append_right _ h)
theorem fX1_ask_17 : Cond.fieldLink RX1 17 "SlopeCoins$Ground" "height" "[I" ∈ wsX1_ask := by decide +kernel
theorem nX1_ask_7 : Cond.fieldLinkNest RX1 7 "SlopeCoins" "traced" "J" "SlopeCoins" ∈ nwS := by decide +kernel
theorem nX1_ask_13 : Cond.fieldLinkNest RX1 13 "SlopeCoins" "ground" "LSlopeCoins$Ground;" "SlopeCoins" ∈ nwS := by decide +kernel
set_option maxRecDepth 100000 in
set_option maxHeartbeats 4000000 in
theorem ctX1_ask {l : Launch} {D : va_G} {cI cZ cC cG cB : ClassId} {ad : Nat → Nat} {w : Nat} {wi : Nat} {wC : String} {wT : u_T} {wN : Nat} {v2 : Int32} {σ : St} {res : (Int32 × St)} (hwl : w < 75) (hwm : ∀ f, mkS cI cZ cC cG cB ad w f = .inr (wi, [])) (hwc : vwCl[wi]? = some (wC, wT, wN)) (h : mX1_ask v2 σ = some res) : Ci l yX1_ask wsX1_ask 0 0 D vwCl (tysS cI cZ cC cG cB) nwS (mkS cI cZ cC cG cB ad) ad 75 [.ref (ad w), .ref (ad 0), .int v2] σ res := by
  refine c_int (cc := cX1_ask) (maxL := 3) (by decide) rfl (Nat.le_of_ble_eq_true rfl) fun a b hn K hR => ?_
  unfold mX1_ask at h
  have K : KS (GS l 0 0 D cI cZ cC cG cB ad a b (w_A ad 75)) cX1_ask RX1 wsX1_ask (some .int) := K
  have hn : x_n (GS l 0 0 D cI cZ cC cG cB ad a b (w_A ad 75)) = 3 := hn
  refine k_sub [0, 1, 2] rfl ?_
  refine k_aload_n K dX1_ask_0 1 rfl ?_
  refine k_dup K dX1_ask_1 rfl ?_
  refine k_getN (host := "SlopeCoins") K 0 11 16 iX1_ask_X11 (Nat.le_of_ble_eq_true rfl) ((mS_0 cI cZ cC cG cB ad) _) rfl (by decide) nX1_ask_7 rfl dX1_ask_2 ?_
  refine k_lconst (v := 1) K dX1_ask_5 (by decide) ?_
  refine k_ladd K dX1_ask_6 ?_
  have h := lt_some h
  refine k_putLN (host := "SlopeCoins") K 0 11 16 tyX11 tyX11_ok nmX11 iX1_ask_X11 (Nat.le_of_ble_eq_true rfl) ((mS_0 cI cZ cC cG cB ad) _) rfl (by decide) nX1_ask_7 rfl (by decide +kernel) (Nat.le_of_ble_eq_true rfl) (put_longS cI cZ cC cG cB ad _ _) dX1_ask_7 ?_
  refine k_aload_n K dX1_ask_10 1 rfl ?_
  refine k_getN (host := "SlopeCoins") K 0 11 5 iX1_ask_X11 (Nat.le_of_ble_eq_true rfl) ((mS_0 cI cZ cC cG cB ad) _) rfl (by decide) nX1_ask_13 rfl dX1_ask_11 ?_
  refine k_get K 26 3 2 iX1_ask_X3 (Nat.le_of_ble_eq_true rfl) ((mS_26 cI cZ cC cG cB ad) _) rfl (by decide) fX1_ask_17 rfl dX1_ask_14 ?_
  refine k_iload_n K dX1_ask_17 2 rfl ?_
  obtain ⟨g2, h⟩ := gd_some h
  refine k_ild K 27 0 (Nat.le_of_ble_eq_true rfl) ((mS_27 cI cZ cC cG cB ad) _) rfl g2 dX1_ask_18 ?_
  exact ret_i hR h dX1_ask_19 trivial
-- X9_ask (1, 22)
theorem iX9_ask_X11 : ∀ w ∈ wsX110, w ∈ wsX9_ask := fun _ h => List.mem_cons_of_mem _ (List.mem_append_left _ (List.mem_append_right _ h))
theorem iX9_ask_X3 : ∀ w ∈ wsX30, w ∈ wsX9_ask := fun _ h => List.mem_cons_of_mem _ (List.mem_append_right _ h)
theorem fX9_ask_23 : Cond.fieldLink RX9 23 "SlopeCoins$Ground" "lie" "[I" ∈ wsX9_ask := by decide +kernel
theorem nX9_ask_7 : Cond.fieldLinkNest RX9 7 "SlopeCoins" "traced" "J" "SlopeCoins" ∈ nwS := by decide +kernel
theorem nX9_ask_19 : Cond.fieldLinkNest RX9 19 "SlopeCoins" "ground" "LSlopeCoins$Ground;" "SlopeCoins" ∈ nwS := by decide +kernel
set_option maxRecDepth 100000 in
set_option maxHeartbeats 4000000 in
theorem ctX9_ask {l : Launch} {D : va_G} {cI cZ cC cG cB : ClassId} {ad : Nat → Nat} {w : Nat} {wi : Nat} {wC : String} {wT : u_T} {wN : Nat} {v2 : Int32} {σ : St} {res : (Int32 × St)} (hwl : w < 75) (hwm : ∀ f, mkS cI cZ cC cG cB ad w f = .inr (wi, [])) (hwc : vwCl[wi]? = some (wC, wT, wN)) (h : mX9_ask v2 σ = some res) : Ci l yX9_ask wsX9_ask 1 22 D vwCl (tysS cI cZ cC cG cB) nwS (mkS cI cZ cC cG cB ad) ad 75 [.ref (ad w), .ref (ad 0), .int v2] σ res := by
  refine c_int (cc := cX9_ask) (maxL := 3) (by decide) rfl (Nat.le_of_ble_eq_true rfl) fun a b hn K hR => ?_
  unfold mX9_ask at h
  have K : KS (GS l 1 22 D cI cZ cC cG cB ad a b (w_A ad 75)) cX9_ask RX9 wsX9_ask (some .int) := K
  have hn : x_n (GS l 1 22 D cI cZ cC cG cB ad a b (w_A ad 75)) = 3 := hn
  refine k_sub [0, 1, 2] rfl ?_
  refine k_aload_n K dX9_ask_0 1 rfl ?_
  refine k_dup K dX9_ask_1 rfl ?_
  refine k_getN (host := "SlopeCoins") K 0 11 16 iX9_ask_X11 (Nat.le_of_ble_eq_true rfl) ((mS_0 cI cZ cC cG cB ad) _) rfl (by decide) nX9_ask_7 rfl dX9_ask_2 ?_
  refine k_ldc2 (v := 100) K (by decide +kernel) dX9_ask_5 ?_
  refine k_ladd K dX9_ask_8 ?_
  have h := lt_some h
  refine k_putLN (host := "SlopeCoins") K 0 11 16 tyX11 tyX11_ok nmX11 iX9_ask_X11 (Nat.le_of_ble_eq_true rfl) ((mS_0 cI cZ cC cG cB ad) _) rfl (by decide) nX9_ask_7 rfl (by decide +kernel) (Nat.le_of_ble_eq_true rfl) (put_longS cI cZ cC cG cB ad _ _) dX9_ask_9 ?_
  refine k_aload_n K dX9_ask_12 0 rfl ?_
  refine k_aload_n K dX9_ask_13 1 rfl ?_
  refine k_iload_n K dX9_ask_14 2 rfl ?_
  obtain ⟨⟨r2, s3⟩, e4, h⟩ := bd_some h
  dsimp only at h
  refine k_callSUi K w wi hwl (hwm _) hwc (ctX1_ask hwl hwm hwc e4) (va_cwSU 2 K.ts gX9_ask_X1_ask_s15 rfl rfl rfl hUX1_ask ⟨Nat.le_of_ble_eq_true rfl, Nat.le_of_ble_eq_true rfl⟩) rfl rfl (Nat.le_of_ble_eq_true rfl) dX9_ask_15 ?_
  refine k_aload_n K dX9_ask_18 1 rfl ?_
  refine k_getN (host := "SlopeCoins") K 0 11 5 iX9_ask_X11 (Nat.le_of_ble_eq_true rfl) ((mS_0 cI cZ cC cG cB ad) _) rfl (by decide) nX9_ask_19 rfl dX9_ask_19 ?_
  refine k_get K 26 3 4 iX9_ask_X3 (Nat.le_of_ble_eq_true rfl) ((mS_26 cI cZ cC cG cB ad) _) rfl (by decide) fX9_ask_23 rfl dX9_ask_22 ?_
  refine k_iload_n K dX9_ask_25 2 rfl ?_
  obtain ⟨g5, h⟩ := gd_some h
  refine k_ild K 29 0 (Nat.le_of_ble_eq_true rfl) ((mS_29 cI cZ cC cG cB ad) _) rfl g5 dX9_ask_26 ?_
  refine k_isub K dX9_ask_27 ?_
  exact ret_i hR h dX9_ask_28 trivial
-- X0_ask (2, 44)
theorem iX0_ask_X11 : ∀ w ∈ wsX110, w ∈ wsX0_ask := fun _ h => List.mem_cons_of_mem _ (List.mem_append_left _ (List.mem_append_right _ h))
theorem iX0_ask_X3 : ∀ w ∈ wsX30, w ∈ wsX0_ask := fun _ h => List.mem_cons_of_mem _ (List.mem_append_right _ h)
theorem fX0_ask_23 : Cond.fieldLink RX0 23 "SlopeCoins$Ground" "lieWorth" "[I" ∈ wsX0_ask := by decide +kernel
theorem nX0_ask_7 : Cond.fieldLinkNest RX0 7 "SlopeCoins" "traced" "J" "SlopeCoins" ∈ nwS := by decide +kernel
theorem nX0_ask_19 : Cond.fieldLinkNest RX0 19 "SlopeCoins" "ground" "LSlopeCoins$Ground;" "SlopeCoins" ∈ nwS := by decide +kernel
set_option maxRecDepth 100000 in
set_option maxHeartbeats 4000000 in
theorem ctX0_ask {l : Launch} {D : va_G} {cI cZ cC cG cB : ClassId} {ad : Nat → Nat} {w : Nat} {wi : Nat} {wC : String} {wT : u_T} {wN : Nat} {v2 : Int32} {σ : St} {res : (Int32 × St)} (hwl : w < 75) (hwm : ∀ f, mkS cI cZ cC cG cB ad w f = .inr (wi, [])) (hwc : vwCl[wi]? = some (wC, wT, wN)) (h : mX0_ask v2 σ = some res) : Ci l yX0_ask wsX0_ask 2 44 D vwCl (tysS cI cZ cC cG cB) nwS (mkS cI cZ cC cG cB ad) ad 75 [.ref (ad w), .ref (ad 0), .int v2] σ res := by
  refine c_int (cc := cX0_ask) (maxL := 3) (by decide) rfl (Nat.le_of_ble_eq_true rfl) fun a b hn K hR => ?_
  unfold mX0_ask at h
  have K : KS (GS l 2 44 D cI cZ cC cG cB ad a b (w_A ad 75)) cX0_ask RX0 wsX0_ask (some .int) := K
  have hn : x_n (GS l 2 44 D cI cZ cC cG cB ad a b (w_A ad 75)) = 3 := hn
  refine k_sub [0, 1, 2] rfl ?_
  refine k_aload_n K dX0_ask_0 1 rfl ?_
  refine k_dup K dX0_ask_1 rfl ?_
  refine k_getN (host := "SlopeCoins") K 0 11 16 iX0_ask_X11 (Nat.le_of_ble_eq_true rfl) ((mS_0 cI cZ cC cG cB ad) _) rfl (by decide) nX0_ask_7 rfl dX0_ask_2 ?_
  refine k_ldc2 (v := 10000) K (by decide +kernel) dX0_ask_5 ?_
  refine k_ladd K dX0_ask_8 ?_
  have h := lt_some h
  refine k_putLN (host := "SlopeCoins") K 0 11 16 tyX11 tyX11_ok nmX11 iX0_ask_X11 (Nat.le_of_ble_eq_true rfl) ((mS_0 cI cZ cC cG cB ad) _) rfl (by decide) nX0_ask_7 rfl (by decide +kernel) (Nat.le_of_ble_eq_true rfl) (put_longS cI cZ cC cG cB ad _ _) dX0_ask_9 ?_
  refine k_aload_n K dX0_ask_12 0 rfl ?_
  refine k_aload_n K dX0_ask_13 1 rfl ?_
  refine k_iload_n K dX0_ask_14 2 rfl ?_
  obtain ⟨⟨r2, s3⟩, e4, h⟩ := bd_some h
  dsimp only at h
  refine k_callSUi K w wi hwl (hwm _) hwc (ctX9_ask hwl hwm hwc e4) (va_cwSU 2 K.ts gX0_ask_X9_ask_s15 rfl rfl rfl hUX9_ask ⟨Nat.le_of_ble_eq_true rfl, Nat.le_of_ble_eq_true rfl⟩) rfl rfl (Nat.le_of_ble_eq_true rfl) dX0_ask_15 ?_
  refine k_aload_n K dX0_ask_18 1 rfl ?_
  refine k_getN (host := "SlopeCoins") K 0 11 5 iX0_ask_X11 (Nat.le_of_ble_eq_true rfl) ((mS_0 cI cZ cC cG cB ad) _) rfl (by decide) nX0_ask_19 rfl dX0_ask_19 ?_
  refine k_get K 26 3 5 iX0_ask_X3 (Nat.le_of_ble_eq_true rfl) ((mS_26 cI cZ cC cG cB ad) _) rfl (by decide) fX0_ask_23 rfl dX0_ask_22 ?_
  refine k_iload_n K dX0_ask_25 2 rfl ?_
  obtain ⟨g5, h⟩ := gd_some h
  refine k_ild K 30 0 (Nat.le_of_ble_eq_true rfl) ((mS_30 cI cZ cC cG cB ad) _) rfl g5 dX0_ask_26 ?_
  refine k_iadd K dX0_ask_27 ?_
  exact ret_i hR h dX0_ask_28 trivial
-- X10_ask (1, 22)
theorem iX10_ask_X11 : ∀ w ∈ wsX110, w ∈ wsX10_ask := fun _ h => List.mem_cons_of_mem _ (List.mem_append_left _ (List.mem_append_left _ (List.mem_append_right _ h)))
theorem nX10_ask_7 : Cond.fieldLinkNest RX10 7 "SlopeCoins" "traced" "J" "SlopeCoins" ∈ nwS := by decide +kernel
set_option maxRecDepth 100000 in
set_option maxHeartbeats 4000000 in
theorem ctX10_ask {l : Launch} {D : va_G} {cI cZ cC cG cB : ClassId} {ad : Nat → Nat} {w : Nat} {wi : Nat} {wC : String} {wT : u_T} {wN : Nat} {v2 : Int32} {σ : St} {res : (Int32 × St)} (hwl : w < 75) (hwm : ∀ f, mkS cI cZ cC cG cB ad w f = .inr (wi, [])) (hwc : vwCl[wi]? = some (wC, wT, wN)) (h : mX10_ask v2 σ = some res) : Ci l yX10_ask wsX10_ask 1 22 D vwCl (tysS cI cZ cC cG cB) nwS (mkS cI cZ cC cG cB ad) ad 75 [.ref (ad w), .ref (ad 0), .int v2] σ res := by
  refine c_int (cc := cX10_ask) (maxL := 3) (by decide) rfl (Nat.le_of_ble_eq_true rfl) fun a b hn K hR => ?_
  unfold mX10_ask at h
  have K : KS (GS l 1 22 D cI cZ cC cG cB ad a b (w_A ad 75)) cX10_ask RX10 wsX10_ask (some .int) := K
  have hn : x_n (GS l 1 22 D cI cZ cC cG cB ad a b (w_A ad 75)) = 3 := hn
  refine k_sub [0, 1, 2] rfl ?_
  refine k_aload_n K dX10_ask_0 1 rfl ?_
  refine k_dup K dX10_ask_1 rfl ?_
  refine k_getN (host := "SlopeCoins") K 0 11 16 iX10_ask_X11 (Nat.le_of_ble_eq_true rfl) ((mS_0 cI cZ cC cG cB ad) _) rfl (by decide) nX10_ask_7 rfl dX10_ask_2 ?_
  refine k_ldc2 (v := 10) K (by decide +kernel) dX10_ask_5 ?_
  refine k_ladd K dX10_ask_8 ?_
  have h := lt_some h
  refine k_putLN (host := "SlopeCoins") K 0 11 16 tyX11 tyX11_ok nmX11 iX10_ask_X11 (Nat.le_of_ble_eq_true rfl) ((mS_0 cI cZ cC cG cB ad) _) rfl (by decide) nX10_ask_7 rfl (by decide +kernel) (Nat.le_of_ble_eq_true rfl) (put_longS cI cZ cC cG cB ad _ _) dX10_ask_9 ?_
  refine k_aload_n K dX10_ask_12 0 rfl ?_
  refine k_aload_n K dX10_ask_13 1 rfl ?_
  refine k_iload_n K dX10_ask_14 2 rfl ?_
  obtain ⟨⟨r2, s3⟩, e4, h⟩ := bd_some h
  dsimp only at h
  refine k_callSUi K w wi hwl (hwm _) hwc (ctX1_ask hwl hwm hwc e4) (va_cwSU 2 K.ts gX10_ask_X1_ask_s15 rfl rfl rfl hUX1_ask ⟨Nat.le_of_ble_eq_true rfl, Nat.le_of_ble_eq_true rfl⟩) rfl rfl (Nat.le_of_ble_eq_true rfl) dX10_ask_15 ?_
  refine k_aload_n K dX10_ask_18 1 rfl ?_
  refine k_iload_n K dX10_ask_19 2 rfl ?_
  obtain ⟨⟨r5, s6⟩, e7, h⟩ := bd_some h
  dsimp only at h
  refine k_callVNi (host := "SlopeCoins") K 0 11 (Nat.le_of_ble_eq_true rfl) ((mS_0 cI cZ cC cG cB ad) _) rfl (ctX11_shutWays e7) ⟨va_cnB 1 K.ts gX10_ask_X11_shutWays_n19 rfl rfl rfl (K.nw _ nX10_ask_19m).1 (K.ts _ (by decide +kernel)) hVX11_shutWays.2 ⟨Nat.le_of_ble_eq_true rfl, Nat.le_of_ble_eq_true rfl⟩, K.ts _ (by decide +kernel), K.ts _ (by decide +kernel)⟩ rfl rfl (Nat.le_of_ble_eq_true rfl) dX10_ask_20 ?_
  obtain ⟨⟨r8, s9⟩, e10, h⟩ := bd_some h
  dsimp only at h
  refine k_callSi K (ctJ6_bitCount e10) (va_cwS 1 K.ts gX10_ask_J6_bitCount_0f7a4 rfl rfl rfl hSJ6_bitCount_0f7a4 ⟨Nat.le_of_ble_eq_true rfl, Nat.le_of_ble_eq_true rfl⟩) rfl rfl (Nat.le_of_ble_eq_true rfl) dX10_ask_23 ?_
  refine k_iadd K dX10_ask_26 ?_
  exact ret_i hR h dX10_ask_27 trivial
-- X4_ask (2, 44)
theorem iX4_ask_X11 : ∀ w ∈ wsX110, w ∈ wsX4_ask := fun _ h => List.mem_cons_of_mem _ (List.mem_append_left _ (List.mem_append_left _ (List.mem_append_right _ h)))
theorem nX4_ask_7 : Cond.fieldLinkNest RX4 7 "SlopeCoins" "traced" "J" "SlopeCoins" ∈ nwS := by decide +kernel
set_option maxRecDepth 100000 in
set_option maxHeartbeats 4000000 in
theorem ctX4_ask {l : Launch} {D : va_G} {cI cZ cC cG cB : ClassId} {ad : Nat → Nat} {w : Nat} {wi : Nat} {wC : String} {wT : u_T} {wN : Nat} {v2 : Int32} {σ : St} {res : (Int32 × St)} (hwl : w < 75) (hwm : ∀ f, mkS cI cZ cC cG cB ad w f = .inr (wi, [])) (hwc : vwCl[wi]? = some (wC, wT, wN)) (h : mX4_ask v2 σ = some res) : Ci l yX4_ask wsX4_ask 2 44 D vwCl (tysS cI cZ cC cG cB) nwS (mkS cI cZ cC cG cB ad) ad 75 [.ref (ad w), .ref (ad 0), .int v2] σ res := by
  refine c_int (cc := cX4_ask) (maxL := 3) (by decide) rfl (Nat.le_of_ble_eq_true rfl) fun a b hn K hR => ?_
  unfold mX4_ask at h
  have K : KS (GS l 2 44 D cI cZ cC cG cB ad a b (w_A ad 75)) cX4_ask RX4 wsX4_ask (some .int) := K
  have hn : x_n (GS l 2 44 D cI cZ cC cG cB ad a b (w_A ad 75)) = 3 := hn
  refine k_sub [0, 1, 2] rfl ?_
  refine k_aload_n K dX4_ask_0 1 rfl ?_
  refine k_dup K dX4_ask_1 rfl ?_
  refine k_getN (host := "SlopeCoins") K 0 11 16 iX4_ask_X11 (Nat.le_of_ble_eq_true rfl) ((mS_0 cI cZ cC cG cB ad) _) rfl (by decide) nX4_ask_7 rfl dX4_ask_2 ?_
  refine k_ldc2 (v := 1000) K (by decide +kernel) dX4_ask_5 ?_
  refine k_ladd K dX4_ask_8 ?_
  have h := lt_some h
  refine k_putLN (host := "SlopeCoins") K 0 11 16 tyX11 tyX11_ok nmX11 iX4_ask_X11 (Nat.le_of_ble_eq_true rfl) ((mS_0 cI cZ cC cG cB ad) _) rfl (by decide) nX4_ask_7 rfl (by decide +kernel) (Nat.le_of_ble_eq_true rfl) (put_longS cI cZ cC cG cB ad _ _) dX4_ask_9 ?_
  refine k_iconst (x := 2) K dX4_ask_12 (by decide) ?_
  refine k_aload_n K dX4_ask_13 0 rfl ?_
  refine k_aload_n K dX4_ask_14 1 rfl ?_
  refine k_iload_n K dX4_ask_15 2 rfl ?_
  obtain ⟨⟨r2, s3⟩, e4, h⟩ := bd_some h
  dsimp only at h
  refine k_callSUi K w wi hwl (hwm _) hwc (ctX10_ask hwl hwm hwc e4) (va_cwSU 2 K.ts gX4_ask_X10_ask_s15 rfl rfl rfl hUX10_ask ⟨Nat.le_of_ble_eq_true rfl, Nat.le_of_ble_eq_true rfl⟩) rfl rfl (Nat.le_of_ble_eq_true rfl) dX4_ask_16 ?_
  refine k_imul K dX4_ask_19 ?_
  exact ret_i hR h dX4_ask_20 trivial
-- X5_ask (1, 22)
theorem iX5_ask_X11 : ∀ w ∈ wsX110, w ∈ wsX5_ask := fun _ h => List.mem_cons_of_mem _ (List.mem_append_left _ (List.mem_append_left _ (List.mem_append_right _ h)))
theorem iX5_ask_X2 : ∀ w ∈ wsX20, w ∈ wsX5_ask := fun _ h => List.mem_cons_of_mem _ (List.mem_append_left _ (List.mem_append_right _ h))
theorem fX5_ask_23 : Cond.fieldLink RX5 23 "SlopeCoins$City" "grating" "[I" ∈ wsX5_ask := by decide +kernel
theorem nX5_ask_7 : Cond.fieldLinkNest RX5 7 "SlopeCoins" "traced" "J" "SlopeCoins" ∈ nwS := by decide +kernel
theorem nX5_ask_19 : Cond.fieldLinkNest RX5 19 "SlopeCoins" "city" "LSlopeCoins$City;" "SlopeCoins" ∈ nwS := by decide +kernel
set_option maxRecDepth 100000 in
set_option maxHeartbeats 4000000 in
theorem ctX5_ask {l : Launch} {D : va_G} {cI cZ cC cG cB : ClassId} {ad : Nat → Nat} {w : Nat} {wi : Nat} {wC : String} {wT : u_T} {wN : Nat} {v2 : Int32} {σ : St} {res : (Int32 × St)} (hwl : w < 75) (hwm : ∀ f, mkS cI cZ cC cG cB ad w f = .inr (wi, [])) (hwc : vwCl[wi]? = some (wC, wT, wN)) (h : mX5_ask v2 σ = some res) : Ci l yX5_ask wsX5_ask 1 22 D vwCl (tysS cI cZ cC cG cB) nwS (mkS cI cZ cC cG cB ad) ad 75 [.ref (ad w), .ref (ad 0), .int v2] σ res := by
  refine c_int (cc := cX5_ask) (maxL := 3) (by decide) rfl (Nat.le_of_ble_eq_true rfl) fun a b hn K hR => ?_
  unfold mX5_ask at h
  have K : KS (GS l 1 22 D cI cZ cC cG cB ad a b (w_A ad 75)) cX5_ask RX5 wsX5_ask (some .int) := K
  have hn : x_n (GS l 1 22 D cI cZ cC cG cB ad a b (w_A ad 75)) = 3 := hn
  refine k_sub [0, 1, 2] rfl ?_
  refine k_aload_n K dX5_ask_0 1 rfl ?_
  refine k_dup K dX5_ask_1 rfl ?_
  refine k_getN (host := "SlopeCoins") K 0 11 16 iX5_ask_X11 (Nat.le_of_ble_eq_true rfl) ((mS_0 cI cZ cC cG cB ad) _) rfl (by decide) nX5_ask_7 rfl dX5_ask_2 ?_
  refine k_ldc2 (v := 100000) K (by decide +kernel) dX5_ask_5 ?_
  refine k_ladd K dX5_ask_8 ?_
  have h := lt_some h
  refine k_putLN (host := "SlopeCoins") K 0 11 16 tyX11 tyX11_ok nmX11 iX5_ask_X11 (Nat.le_of_ble_eq_true rfl) ((mS_0 cI cZ cC cG cB ad) _) rfl (by decide) nX5_ask_7 rfl (by decide +kernel) (Nat.le_of_ble_eq_true rfl) (put_longS cI cZ cC cG cB ad _ _) dX5_ask_9 ?_
  refine k_aload_n K dX5_ask_12 0 rfl ?_
  refine k_aload_n K dX5_ask_13 1 rfl ?_
  refine k_iload_n K dX5_ask_14 2 rfl ?_
  obtain ⟨⟨r2, s3⟩, e4, h⟩ := bd_some h
  dsimp only at h
  refine k_callSUi K w wi hwl (hwm _) hwc (ctX1_ask hwl hwm hwc e4) (va_cwSU 2 K.ts gX5_ask_X1_ask_s15 rfl rfl rfl hUX1_ask ⟨Nat.le_of_ble_eq_true rfl, Nat.le_of_ble_eq_true rfl⟩) rfl rfl (Nat.le_of_ble_eq_true rfl) dX5_ask_15 ?_
  refine k_aload_n K dX5_ask_18 1 rfl ?_
  refine k_getN (host := "SlopeCoins") K 0 11 2 iX5_ask_X11 (Nat.le_of_ble_eq_true rfl) ((mS_0 cI cZ cC cG cB ad) _) rfl (by decide) nX5_ask_19 rfl dX5_ask_19 ?_
  refine k_get K 10 2 7 iX5_ask_X2 (Nat.le_of_ble_eq_true rfl) ((mS_10 cI cZ cC cG cB ad) _) rfl (by decide) fX5_ask_23 rfl dX5_ask_22 ?_
  refine k_iload_n K dX5_ask_25 2 rfl ?_
  obtain ⟨g5, h⟩ := gd_some h
  refine k_ild K 13 0 (Nat.le_of_ble_eq_true rfl) ((mS_13 cI cZ cC cG cB ad) _) rfl g5 dX5_ask_26 ?_
  refine k_iadd K dX5_ask_27 ?_
  exact ret_i hR h dX5_ask_28 trivial
-- X11_mark (3, 66)
theorem iX11_mark_X11 : ∀ w ∈ wsX110, w ∈ wsX11_mark := fun _ h => List.mem_cons_of_mem _ (List.mem_append_left _ (List.mem_append_left _ (List.mem_append_right _ h)))
theorem fX11_mark_16 : Cond.fieldLink RX11 16 "SlopeCoins" "city" "LSlopeCoins$City;" ∈ wsX11_mark := by decide +kernel
theorem fX11_mark_61 : Cond.fieldLink RX11 61 "SlopeCoins" "bodies" "[LSlopeCoins$CellKind;" ∈ wsX11_mark := by decide +kernel
set_option maxRecDepth 100000 in
set_option maxHeartbeats 4000000 in
theorem ctX11_mark {l : Launch} {D : va_G} {cI cZ cC cG cB : ClassId} {ad : Nat → Nat} {v1 : Int32} {v2 : Int32} {v3 : Int32} {σ : St} {res : (Int32 × St)} (h : mX11_mark v1 v2 v3 σ = some res) : Ci l yX11_mark wsX11_mark 3 66 D vwCl (tysS cI cZ cC cG cB) nwS (mkS cI cZ cC cG cB ad) ad 75 [.ref (ad 0), .int v1, .int v2, .int v3] σ res := by
  refine c_int (cc := cX11_mark) (maxL := 5) (by decide) rfl (Nat.le_of_ble_eq_true rfl) fun a b hn K hR => ?_
  unfold mX11_mark at h
  have K : KS (GS l 3 66 D cI cZ cC cG cB ad a b (w_A ad 75)) cX11_mark RX11 wsX11_mark (some .int) := K
  have hn : x_n (GS l 3 66 D cI cZ cC cG cB ad a b (w_A ad 75)) = 5 := hn
  refine k_sub [0, 1, 2, 3] rfl ?_
  refine k_aload_n K dX11_mark_0 0 rfl ?_
  refine k_get K 0 11 2 iX11_mark_X11 (Nat.le_of_ble_eq_true rfl) ((mS_0 cI cZ cC cG cB ad) _) rfl (by decide) fX11_mark_16 rfl dX11_mark_1 ?_
  refine k_iload_n K dX11_mark_4 2 rfl ?_
  refine k_iload_n K dX11_mark_5 3 rfl ?_
  obtain ⟨⟨r1, s2⟩, e3, h⟩ := bd_some h
  dsimp only at h
  refine k_callVi K 10 2 (Nat.le_of_ble_eq_true rfl) ((mS_10 cI cZ cC cG cB ad) _) rfl (ctX2_cellAt (by decide) e3) (cwV 2 K.ts gX11_mark_X2_cellAt rfl rfl rfl hVX2_cellAt ⟨Nat.le_of_ble_eq_true rfl, Nat.le_of_ble_eq_true rfl⟩) rfl rfl (Nat.le_of_ble_eq_true rfl) dX11_mark_6 ?_
  refine k_istore (lv' := [(4, _), (0, _), (1, _), (2, _), (3, _)]) K dX11_mark_9 (by rw [hn]; decide) rfl ?_
  refine k_iload_n K dX11_mark_11 2 rfl ?_
  refine k_if_lt (tgt := 30) K dX11_mark_12 (by decide) (fun q => ?_) (fun q => ?_)
  · have h := if_t q h
    refine k_ldcw (x := (-1000000)) K (by decide +kernel) dX11_mark_30 ?_
    exact ret_i hR h dX11_mark_33 trivial
  · have h := if_f q h
    refine k_iload_n K dX11_mark_15 2 rfl ?_
    refine k_aload_n K dX11_mark_16 1 rfl ?_
    refine k_get K 0 11 10 iX11_mark_X11 (Nat.le_of_ble_eq_true rfl) ((mS_0 cI cZ cC cG cB ad) _) rfl (by decide) fX11_mark_61 rfl dX11_mark_17 ?_
    refine k_len (x := 6) K 8 4 (Nat.le_of_ble_eq_true rfl) ((mS_8 cI cZ cC cG cB ad) (s2 8)) rfl rfl dX11_mark_20 ?_
    refine k_icmp_ge (tgt := 30) K dX11_mark_21 (by decide) (fun q => ?_) (fun q => ?_)
    · have h := if_f q h
      refine k_ldcw (x := (-1000000)) K (by decide +kernel) dX11_mark_30 ?_
      exact ret_i hR h dX11_mark_33 trivial
    · have h := if_t q h
      refine k_iload K dX11_mark_24 0 rfl ?_
      refine k_iconst (x := (-1)) K dX11_mark_26 (by decide) ?_
      refine k_icmp_ne (tgt := 34) K dX11_mark_27 (by decide) (fun q => ?_) (fun q => ?_)
      · have h := if_f q h
        refine k_aload_n K dX11_mark_34 1 rfl ?_
        refine k_get K 0 11 10 iX11_mark_X11 (Nat.le_of_ble_eq_true rfl) ((mS_0 cI cZ cC cG cB ad) _) rfl (by decide) fX11_mark_61 rfl dX11_mark_35 ?_
        refine k_iload_n K dX11_mark_38 2 rfl ?_
        refine k_case (y := 0) (fun q0 => ?_) (fun q0 => ?_)
        · have h := if_t q0 h
          refine k_ald (q := ad 69) K 8 4 (Nat.le_of_ble_eq_true rfl) (mS_8 cI cZ cC cG cB ad) rfl (by rw [q0]; decide) (by rw [q0]; try rfl) dX11_mark_39 ?_
          refine k_aload_n K dX11_mark_40 1 rfl ?_
          refine k_iload K dX11_mark_41 0 rfl ?_
          obtain ⟨⟨r4, s5⟩, e6, h⟩ := bd_some h
          dsimp only at h
          refine k_callVi K 69 1 (Nat.le_of_ble_eq_true rfl) ((mS_69 cI cZ cC cG cB ad) (s2 69)) rfl (ctX1_ask (Nat.le_of_ble_eq_true rfl) (mS_69 cI cZ cC cG cB ad) rfl e6) (cwV 2 K.ts gX11_mark_X1_ask rfl rfl rfl hVX1_ask ⟨Nat.le_of_ble_eq_true rfl, Nat.le_of_ble_eq_true rfl⟩) rfl rfl (Nat.le_of_ble_eq_true rfl) dX11_mark_43 ?_
          exact ret_i hR h dX11_mark_46 trivial
        · have h := if_f q0 h
          refine k_case (y := 1) (fun q1 => ?_) (fun q1 => ?_)
          · have h := if_t q1 h
            refine k_ald (q := ad 70) K 8 4 (Nat.le_of_ble_eq_true rfl) (mS_8 cI cZ cC cG cB ad) rfl (by rw [q1]; decide) (by rw [q1]; try rfl) dX11_mark_39 ?_
            refine k_aload_n K dX11_mark_40 1 rfl ?_
            refine k_iload K dX11_mark_41 0 rfl ?_
            obtain ⟨⟨r7, s8⟩, e9, h⟩ := bd_some h
            dsimp only at h
            refine k_callUi K 70 10 (Nat.le_of_ble_eq_true rfl) ((mS_70 cI cZ cC cG cB ad) (s2 70)) rfl (ctX10_ask (Nat.le_of_ble_eq_true rfl) (mS_70 cI cZ cC cG cB ad) rfl e9) (va_cwO 2 K.ts gX11_mark_X10_ask_u280X10 rfl rfl rfl (b0 := cX1_ask) (m0 := 3) (r0 := some .int) (by decide +kernel) hO_ask ⟨Nat.le_of_ble_eq_true rfl, Nat.le_of_ble_eq_true rfl⟩) rfl rfl (Nat.le_of_ble_eq_true rfl) dX11_mark_43 ?_
            exact ret_i hR h dX11_mark_46 trivial
          · have h := if_f q1 h
            refine k_case (y := 2) (fun q2 => ?_) (fun q2 => ?_)
            · have h := if_t q2 h
              refine k_ald (q := ad 71) K 8 4 (Nat.le_of_ble_eq_true rfl) (mS_8 cI cZ cC cG cB ad) rfl (by rw [q2]; decide) (by rw [q2]; try rfl) dX11_mark_39 ?_
              refine k_aload_n K dX11_mark_40 1 rfl ?_
              refine k_iload K dX11_mark_41 0 rfl ?_
              obtain ⟨⟨r10, s11⟩, e12, h⟩ := bd_some h
              dsimp only at h
              refine k_callUi K 71 9 (Nat.le_of_ble_eq_true rfl) ((mS_71 cI cZ cC cG cB ad) (s2 71)) rfl (ctX9_ask (Nat.le_of_ble_eq_true rfl) (mS_71 cI cZ cC cG cB ad) rfl e12) (va_cwO 2 K.ts gX11_mark_X9_ask_u280X9 rfl rfl rfl (b0 := cX1_ask) (m0 := 3) (r0 := some .int) (by decide +kernel) hO_ask ⟨Nat.le_of_ble_eq_true rfl, Nat.le_of_ble_eq_true rfl⟩) rfl rfl (Nat.le_of_ble_eq_true rfl) dX11_mark_43 ?_
              exact ret_i hR h dX11_mark_46 trivial
            · have h := if_f q2 h
              refine k_case (y := 3) (fun q3 => ?_) (fun q3 => ?_)
              · have h := if_t q3 h
                refine k_ald (q := ad 72) K 8 4 (Nat.le_of_ble_eq_true rfl) (mS_8 cI cZ cC cG cB ad) rfl (by rw [q3]; decide) (by rw [q3]; try rfl) dX11_mark_39 ?_
                refine k_aload_n K dX11_mark_40 1 rfl ?_
                refine k_iload K dX11_mark_41 0 rfl ?_
                obtain ⟨⟨r13, s14⟩, e15, h⟩ := bd_some h
                dsimp only at h
                refine k_callUi K 72 4 (Nat.le_of_ble_eq_true rfl) ((mS_72 cI cZ cC cG cB ad) (s2 72)) rfl (ctX4_ask (Nat.le_of_ble_eq_true rfl) (mS_72 cI cZ cC cG cB ad) rfl e15) (va_cwO 2 K.ts gX11_mark_X4_ask_u280X4 rfl rfl rfl (b0 := cX1_ask) (m0 := 3) (r0 := some .int) (by decide +kernel) hO_ask ⟨Nat.le_of_ble_eq_true rfl, Nat.le_of_ble_eq_true rfl⟩) rfl rfl (Nat.le_of_ble_eq_true rfl) dX11_mark_43 ?_
                exact ret_i hR h dX11_mark_46 trivial
              · have h := if_f q3 h
                refine k_case (y := 4) (fun q4 => ?_) (fun q4 => ?_)
                · have h := if_t q4 h
                  refine k_ald (q := ad 73) K 8 4 (Nat.le_of_ble_eq_true rfl) (mS_8 cI cZ cC cG cB ad) rfl (by rw [q4]; decide) (by rw [q4]; try rfl) dX11_mark_39 ?_
                  refine k_aload_n K dX11_mark_40 1 rfl ?_
                  refine k_iload K dX11_mark_41 0 rfl ?_
                  obtain ⟨⟨r16, s17⟩, e18, h⟩ := bd_some h
                  dsimp only at h
                  refine k_callUi K 73 0 (Nat.le_of_ble_eq_true rfl) ((mS_73 cI cZ cC cG cB ad) (s2 73)) rfl (ctX0_ask (Nat.le_of_ble_eq_true rfl) (mS_73 cI cZ cC cG cB ad) rfl e18) (va_cwO 2 K.ts gX11_mark_X0_ask_u280X0 rfl rfl rfl (b0 := cX1_ask) (m0 := 3) (r0 := some .int) (by decide +kernel) hO_ask ⟨Nat.le_of_ble_eq_true rfl, Nat.le_of_ble_eq_true rfl⟩) rfl rfl (Nat.le_of_ble_eq_true rfl) dX11_mark_43 ?_
                  exact ret_i hR h dX11_mark_46 trivial
                · have h := if_f q4 h
                  refine k_case (y := 5) (fun q5 => ?_) (fun q5 => ?_)
                  · have h := if_t q5 h
                    refine k_ald (q := ad 74) K 8 4 (Nat.le_of_ble_eq_true rfl) (mS_8 cI cZ cC cG cB ad) rfl (by rw [q5]; decide) (by rw [q5]; try rfl) dX11_mark_39 ?_
                    refine k_aload_n K dX11_mark_40 1 rfl ?_
                    refine k_iload K dX11_mark_41 0 rfl ?_
                    obtain ⟨⟨r19, s20⟩, e21, h⟩ := bd_some h
                    dsimp only at h
                    refine k_callUi K 74 5 (Nat.le_of_ble_eq_true rfl) ((mS_74 cI cZ cC cG cB ad) (s2 74)) rfl (ctX5_ask (Nat.le_of_ble_eq_true rfl) (mS_74 cI cZ cC cG cB ad) rfl e21) (va_cwO 2 K.ts gX11_mark_X5_ask_u280X5 rfl rfl rfl (b0 := cX1_ask) (m0 := 3) (r0 := some .int) (by decide +kernel) hO_ask ⟨Nat.le_of_ble_eq_true rfl, Nat.le_of_ble_eq_true rfl⟩) rfl rfl (Nat.le_of_ble_eq_true rfl) dX11_mark_43 ?_
                    exact ret_i hR h dX11_mark_46 trivial
                  · have h := if_f q5 h
                    cases h
      · have h := if_t q h
        refine k_ldcw (x := (-1000000)) K (by decide +kernel) dX11_mark_30 ?_
        exact ret_i hR h dX11_mark_33 trivial

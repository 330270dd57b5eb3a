/-! constructors, by program -/
abbrev nwI : List Cond := [Cond.methodLinkNest "SlopeCoins" 15 ⟨"SlopeCoins$City", "<init>", "()V"⟩ "SlopeCoins", Cond.methodLinkNest "SlopeCoins" 25 ⟨"SlopeCoins$Reader", "<init>", "()V"⟩ "SlopeCoins", Cond.methodLinkNest "SlopeCoins" 32 ⟨"SlopeCoins$Ground", "<init>", "()V"⟩ "SlopeCoins", Cond.methodLinkNest "SlopeCoins" 47 ⟨"SlopeCoins$Roll", "<init>", "()V"⟩ "SlopeCoins", Cond.methodLinkNest "SlopeCoins" 54 ⟨"SlopeCoins$PlankSearch", "<init>", "()V"⟩ "SlopeCoins", Cond.methodLinkNest "SlopeCoins$PlankSearch" 11 ⟨"SlopeCoins$Roll", "<init>", "()V"⟩ "SlopeCoins", Cond.methodLinkNest "SlopeCoins" 78 ⟨"SlopeCoins$CellKind", "<init>", "()V"⟩ "SlopeCoins", Cond.methodLinkNest "SlopeCoins" 81 ⟨"SlopeCoins$StreetKind", "<init>", "()V"⟩ "SlopeCoins", Cond.methodLinkNest "SlopeCoins$StreetKind" 1 ⟨"SlopeCoins$CellKind", "<init>", "()V"⟩ "SlopeCoins", Cond.methodLinkNest "SlopeCoins" 84 ⟨"SlopeCoins$SquareKind", "<init>", "()V"⟩ "SlopeCoins", Cond.methodLinkNest "SlopeCoins$SquareKind" 1 ⟨"SlopeCoins$CellKind", "<init>", "()V"⟩ "SlopeCoins", Cond.methodLinkNest "SlopeCoins" 87 ⟨"SlopeCoins$LaneKind", "<init>", "()V"⟩ "SlopeCoins", Cond.methodLinkNest "SlopeCoins$LaneKind" 1 ⟨"SlopeCoins$StreetKind", "<init>", "()V"⟩ "SlopeCoins", Cond.methodLinkNest "SlopeCoins" 90 ⟨"SlopeCoins$BendKind", "<init>", "()V"⟩ "SlopeCoins", Cond.methodLinkNest "SlopeCoins$BendKind" 1 ⟨"SlopeCoins$SquareKind", "<init>", "()V"⟩ "SlopeCoins", Cond.methodLinkNest "SlopeCoins" 93 ⟨"SlopeCoins$LodgeKind", "<init>", "()V"⟩ "SlopeCoins", Cond.methodLinkNest "SlopeCoins$LodgeKind" 1 ⟨"SlopeCoins$CellKind", "<init>", "()V"⟩ "SlopeCoins", Cond.castable "SlopeCoins$BendKind" "SlopeCoins$CellKind", Cond.castable "SlopeCoins$LaneKind" "SlopeCoins$CellKind", Cond.castable "SlopeCoins$LodgeKind" "SlopeCoins$CellKind", Cond.castable "SlopeCoins$SquareKind" "SlopeCoins$CellKind", Cond.castable "SlopeCoins$StreetKind" "SlopeCoins$CellKind", Cond.arrayOver (.object "SlopeCoins$Ground"), Cond.arrayOver (.object "SlopeCoins$CellKind")]

theorem hI_X2_init : yX2_init.cls ≠ "java/lang/invoke/MethodHandle" ∧ yX2_init.cls ≠ "java/lang/invoke/VarHandle" ∧ (parseMethodDescriptor yX2_init.desc).map (fun d => d.parameters.length) = some 0 := by decide +kernel
set_option maxRecDepth 100000 in
set_option maxHeartbeats 4000000 in
theorem ctX2_init {l : Launch} {D : va_G} {cI cZ cC cG cB : ClassId} {h0 sz : Nat} : CI l yX2_init wsX2_init 1 12 7 225 D vwCl (tysS cI cZ cC cG cB) nwI h0 sz (.inr (2, [.int 0, .int 0, .int 0, .int 0, .int 0, .null, .null, .null, .null, .null, .null, .null])) (fun u => [(h0, .inr (2, [.int 0, .int 0, .int 0, .int 0, .int 0, .ref (u 1), .ref (u 2), .ref (u 3), .ref (u 4), .ref (u 5), .ref (u 6), .ref (u 7)])), (u 1, .inl (cI, 30, .inl (fun _ => 0))), (u 2, .inl (cI, 30, .inl (fun _ => 0))), (u 3, .inl (cI, 30, .inl (fun _ => 0))), (u 4, .inl (cI, 120, .inl (fun _ => 0))), (u 5, .inl (cI, 5, .inl (fun _ => 0))), (u 6, .inl (cI, 5, .inl (fun _ => 0))), (u 7, .inl (cI, 5, .inl (fun _ => 0)))]) := by
  refine c_init (cc := cX2_init) (maxL := 1) (by decide) rfl rfl (Nat.le_of_ble_eq_true rfl) fun a b A hn K I hR => ?_
  have K : KS (Gi l { frames := 1, cells := 7, slots := 225, locals := 12 } D vwCl (tysS cI cZ cC cG cB) nwI a b A) cX2_init RX2 wsX2_init none := K
  have hn : x_n (Gi l { frames := 1, cells := 7, slots := 225, locals := 12 } D vwCl (tysS cI cZ cC cG cB) nwI a b A) = 1 := hn
  refine l_aload_n K dX2_init_0 0 rfl ?_
  refine l_obj K (by decide +kernel) (by decide +kernel) (by decide +kernel) rfl ⟨Nat.le_of_ble_eq_true rfl, Nat.le_of_ble_eq_true rfl⟩ dX2_init_1 ?_
  refine l_aload_n K dX2_init_4 0 rfl ?_
  refine l_bipush (x := 30) K dX2_init_5 (by decide) ?_
  refine l_newa (N' := 30) (ty := .int) K I 0 (by decide +kernel) rfl rfl (fun _ h => by cases h) rfl (by decide) (by decide) (by decide) (Nat.le_of_ble_eq_true rfl) (Nat.le_of_ble_eq_true rfl) dX2_init_7 ?_
  intro q7
  refine l_putF (ty := .array .int) K I 2 5 tyX2 tyX2_ok nmX2 (fun _ h => List.mem_cons_of_mem _ (List.mem_append_right _ h)) rfl (by decide) (by decide +kernel) rfl rfl (by decide +kernel) rfl rfl (Nat.le_of_ble_eq_true rfl) dX2_init_9 ?_
  refine l_aload_n K dX2_init_12 0 rfl ?_
  refine l_bipush (x := 30) K dX2_init_13 (by decide) ?_
  refine l_newa (N' := 30) (ty := .int) K I 0 (by decide +kernel) rfl rfl (fun _ h => by cases h) rfl (by decide) (by decide) (by decide) (Nat.le_of_ble_eq_true rfl) (Nat.le_of_ble_eq_true rfl) dX2_init_15 ?_
  intro q15
  refine l_putF (ty := .array .int) K I 2 6 tyX2 tyX2_ok nmX2 (fun _ h => List.mem_cons_of_mem _ (List.mem_append_right _ h)) rfl (by decide) (by decide +kernel) rfl rfl (by decide +kernel) rfl rfl (Nat.le_of_ble_eq_true rfl) dX2_init_17 ?_
  refine l_aload_n K dX2_init_20 0 rfl ?_
  refine l_bipush (x := 30) K dX2_init_21 (by decide) ?_
  refine l_newa (N' := 30) (ty := .int) K I 0 (by decide +kernel) rfl rfl (fun _ h => by cases h) rfl (by decide) (by decide) (by decide) (Nat.le_of_ble_eq_true rfl) (Nat.le_of_ble_eq_true rfl) dX2_init_23 ?_
  intro q23
  refine l_putF (ty := .array .int) K I 2 7 tyX2 tyX2_ok nmX2 (fun _ h => List.mem_cons_of_mem _ (List.mem_append_right _ h)) rfl (by decide) (by decide +kernel) rfl rfl (by decide +kernel) rfl rfl (Nat.le_of_ble_eq_true rfl) dX2_init_25 ?_
  refine l_aload_n K dX2_init_28 0 rfl ?_
  refine l_bipush (x := 120) K dX2_init_29 (by decide) ?_
  refine l_newa (N' := 120) (ty := .int) K I 0 (by decide +kernel) rfl rfl (fun _ h => by cases h) rfl (by decide) (by decide) (by decide) (Nat.le_of_ble_eq_true rfl) (Nat.le_of_ble_eq_true rfl) dX2_init_31 ?_
  intro q31
  refine l_putF (ty := .array .int) K I 2 8 tyX2 tyX2_ok nmX2 (fun _ h => List.mem_cons_of_mem _ (List.mem_append_right _ h)) rfl (by decide) (by decide +kernel) rfl rfl (by decide +kernel) rfl rfl (Nat.le_of_ble_eq_true rfl) dX2_init_33 ?_
  refine l_aload_n K dX2_init_36 0 rfl ?_
  refine l_iconst (x := 5) K dX2_init_37 (by decide) ?_
  refine l_newa (N' := 5) (ty := .int) K I 0 (by decide +kernel) rfl rfl (fun _ h => by cases h) rfl (by decide) (by decide) (by decide) (Nat.le_of_ble_eq_true rfl) (Nat.le_of_ble_eq_true rfl) dX2_init_38 ?_
  intro q38
  refine l_putF (ty := .array .int) K I 2 9 tyX2 tyX2_ok nmX2 (fun _ h => List.mem_cons_of_mem _ (List.mem_append_right _ h)) rfl (by decide) (by decide +kernel) rfl rfl (by decide +kernel) rfl rfl (Nat.le_of_ble_eq_true rfl) dX2_init_40 ?_
  refine l_aload_n K dX2_init_43 0 rfl ?_
  refine l_iconst (x := 5) K dX2_init_44 (by decide) ?_
  refine l_newa (N' := 5) (ty := .int) K I 0 (by decide +kernel) rfl rfl (fun _ h => by cases h) rfl (by decide) (by decide) (by decide) (Nat.le_of_ble_eq_true rfl) (Nat.le_of_ble_eq_true rfl) dX2_init_45 ?_
  intro q45
  refine l_putF (ty := .array .int) K I 2 10 tyX2 tyX2_ok nmX2 (fun _ h => List.mem_cons_of_mem _ (List.mem_append_right _ h)) rfl (by decide) (by decide +kernel) rfl rfl (by decide +kernel) rfl rfl (Nat.le_of_ble_eq_true rfl) dX2_init_47 ?_
  refine l_aload_n K dX2_init_50 0 rfl ?_
  refine l_iconst (x := 5) K dX2_init_51 (by decide) ?_
  refine l_newa (N' := 5) (ty := .int) K I 0 (by decide +kernel) rfl rfl (fun _ h => by cases h) rfl (by decide) (by decide) (by decide) (Nat.le_of_ble_eq_true rfl) (Nat.le_of_ble_eq_true rfl) dX2_init_52 ?_
  intro q52
  refine l_putF (ty := .array .int) K I 2 11 tyX2 tyX2_ok nmX2 (fun _ h => List.mem_cons_of_mem _ (List.mem_append_right _ h)) rfl (by decide) (by decide +kernel) rfl rfl (by decide +kernel) rfl rfl (Nat.le_of_ble_eq_true rfl) dX2_init_54 ?_
  exact hR _ _ (fun i => match i with | 1 => q7 | 2 => q15 | 3 => q23 | 4 => q31 | 5 => q38 | 6 => q45 | 7 => q52 | _ => 0) dX2_init_57

theorem hI_X3_init : yX3_init.cls ≠ "java/lang/invoke/MethodHandle" ∧ yX3_init.cls ≠ "java/lang/invoke/VarHandle" ∧ (parseMethodDescriptor yX3_init.desc).map (fun d => d.parameters.length) = some 0 := by decide +kernel
set_option maxRecDepth 100000 in
set_option maxHeartbeats 4000000 in
theorem ctX3_init {l : Launch} {D : va_G} {cI cZ cC cG cB : ClassId} {h0 sz : Nat} : CI l yX3_init wsX3_init 1 12 10 220 D vwCl (tysS cI cZ cC cG cB) nwI h0 sz (.inr (3, [.int 0, .int 0, .null, .null, .null, .null, .null, .null, .null, .null, .null, .null])) (fun u => [(h0, .inr (3, [.int 0, .int 0, .ref (u 1), .ref (u 2), .ref (u 3), .ref (u 4), .ref (u 5), .ref (u 6), .ref (u 7), .ref (u 8), .ref (u 9), .ref (u 10)])), (u 1, .inl (cI, 30, .inl (fun _ => 0))), (u 2, .inl (cI, 30, .inl (fun _ => 0))), (u 3, .inl (cI, 30, .inl (fun _ => 0))), (u 4, .inl (cI, 30, .inl (fun _ => 0))), (u 5, .inl (cI, 30, .inl (fun _ => 0))), (u 6, .inl (cI, 30, .inl (fun _ => 0))), (u 7, .inl (cI, 10, .inl (fun _ => 0))), (u 8, .inl (cI, 10, .inl (fun _ => 0))), (u 9, .inl (cI, 10, .inl (fun _ => 0))), (u 10, .inl (cI, 10, .inl (fun _ => 0)))]) := by
  refine c_init (cc := cX3_init) (maxL := 1) (by decide) rfl rfl (Nat.le_of_ble_eq_true rfl) fun a b A hn K I hR => ?_
  have K : KS (Gi l { frames := 1, cells := 10, slots := 220, locals := 12 } D vwCl (tysS cI cZ cC cG cB) nwI a b A) cX3_init RX3 wsX3_init none := K
  have hn : x_n (Gi l { frames := 1, cells := 10, slots := 220, locals := 12 } D vwCl (tysS cI cZ cC cG cB) nwI a b A) = 1 := hn
  refine l_aload_n K dX3_init_0 0 rfl ?_
  refine l_obj K (by decide +kernel) (by decide +kernel) (by decide +kernel) rfl ⟨Nat.le_of_ble_eq_true rfl, Nat.le_of_ble_eq_true rfl⟩ dX3_init_1 ?_
  refine l_aload_n K dX3_init_4 0 rfl ?_
  refine l_bipush (x := 30) K dX3_init_5 (by decide) ?_
  refine l_newa (N' := 30) (ty := .int) K I 0 (by decide +kernel) rfl rfl (fun _ h => by cases h) rfl (by decide) (by decide) (by decide) (Nat.le_of_ble_eq_true rfl) (Nat.le_of_ble_eq_true rfl) dX3_init_7 ?_
  intro q7
  refine l_putF (ty := .array .int) K I 3 2 tyX3 tyX3_ok nmX3 (fun _ h => List.mem_cons_of_mem _ (List.mem_append_right _ h)) rfl (by decide) (by decide +kernel) rfl rfl (by decide +kernel) rfl rfl (Nat.le_of_ble_eq_true rfl) dX3_init_9 ?_
  refine l_aload_n K dX3_init_12 0 rfl ?_
  refine l_bipush (x := 30) K dX3_init_13 (by decide) ?_
  refine l_newa (N' := 30) (ty := .int) K I 0 (by decide +kernel) rfl rfl (fun _ h => by cases h) rfl (by decide) (by decide) (by decide) (Nat.le_of_ble_eq_true rfl) (Nat.le_of_ble_eq_true rfl) dX3_init_15 ?_
  intro q15
  refine l_putF (ty := .array .int) K I 3 3 tyX3 tyX3_ok nmX3 (fun _ h => List.mem_cons_of_mem _ (List.mem_append_right _ h)) rfl (by decide) (by decide +kernel) rfl rfl (by decide +kernel) rfl rfl (Nat.le_of_ble_eq_true rfl) dX3_init_17 ?_
  refine l_aload_n K dX3_init_20 0 rfl ?_
  refine l_bipush (x := 30) K dX3_init_21 (by decide) ?_
  refine l_newa (N' := 30) (ty := .int) K I 0 (by decide +kernel) rfl rfl (fun _ h => by cases h) rfl (by decide) (by decide) (by decide) (Nat.le_of_ble_eq_true rfl) (Nat.le_of_ble_eq_true rfl) dX3_init_23 ?_
  intro q23
  refine l_putF (ty := .array .int) K I 3 4 tyX3 tyX3_ok nmX3 (fun _ h => List.mem_cons_of_mem _ (List.mem_append_right _ h)) rfl (by decide) (by decide +kernel) rfl rfl (by decide +kernel) rfl rfl (Nat.le_of_ble_eq_true rfl) dX3_init_25 ?_
  refine l_aload_n K dX3_init_28 0 rfl ?_
  refine l_bipush (x := 30) K dX3_init_29 (by decide) ?_
  refine l_newa (N' := 30) (ty := .int) K I 0 (by decide +kernel) rfl rfl (fun _ h => by cases h) rfl (by decide) (by decide) (by decide) (Nat.le_of_ble_eq_true rfl) (Nat.le_of_ble_eq_true rfl) dX3_init_31 ?_
  intro q31
  refine l_putF (ty := .array .int) K I 3 5 tyX3 tyX3_ok nmX3 (fun _ h => List.mem_cons_of_mem _ (List.mem_append_right _ h)) rfl (by decide) (by decide +kernel) rfl rfl (by decide +kernel) rfl rfl (Nat.le_of_ble_eq_true rfl) dX3_init_33 ?_
  refine l_aload_n K dX3_init_36 0 rfl ?_
  refine l_bipush (x := 30) K dX3_init_37 (by decide) ?_
  refine l_newa (N' := 30) (ty := .int) K I 0 (by decide +kernel) rfl rfl (fun _ h => by cases h) rfl (by decide) (by decide) (by decide) (Nat.le_of_ble_eq_true rfl) (Nat.le_of_ble_eq_true rfl) dX3_init_39 ?_
  intro q39
  refine l_putF (ty := .array .int) K I 3 6 tyX3 tyX3_ok nmX3 (fun _ h => List.mem_cons_of_mem _ (List.mem_append_right _ h)) rfl (by decide) (by decide +kernel) rfl rfl (by decide +kernel) rfl rfl (Nat.le_of_ble_eq_true rfl) dX3_init_41 ?_
  refine l_aload_n K dX3_init_44 0 rfl ?_
  refine l_bipush (x := 30) K dX3_init_45 (by decide) ?_
  refine l_newa (N' := 30) (ty := .int) K I 0 (by decide +kernel) rfl rfl (fun _ h => by cases h) rfl (by decide) (by decide) (by decide) (Nat.le_of_ble_eq_true rfl) (Nat.le_of_ble_eq_true rfl) dX3_init_47 ?_
  intro q47
  refine l_putF (ty := .array .int) K I 3 7 tyX3 tyX3_ok nmX3 (fun _ h => List.mem_cons_of_mem _ (List.mem_append_right _ h)) rfl (by decide) (by decide +kernel) rfl rfl (by decide +kernel) rfl rfl (Nat.le_of_ble_eq_true rfl) dX3_init_49 ?_
  refine l_aload_n K dX3_init_52 0 rfl ?_
  refine l_bipush (x := 10) K dX3_init_53 (by decide) ?_
  refine l_newa (N' := 10) (ty := .int) K I 0 (by decide +kernel) rfl rfl (fun _ h => by cases h) rfl (by decide) (by decide) (by decide) (Nat.le_of_ble_eq_true rfl) (Nat.le_of_ble_eq_true rfl) dX3_init_55 ?_
  intro q55
  refine l_putF (ty := .array .int) K I 3 8 tyX3 tyX3_ok nmX3 (fun _ h => List.mem_cons_of_mem _ (List.mem_append_right _ h)) rfl (by decide) (by decide +kernel) rfl rfl (by decide +kernel) rfl rfl (Nat.le_of_ble_eq_true rfl) dX3_init_57 ?_
  refine l_aload_n K dX3_init_60 0 rfl ?_
  refine l_bipush (x := 10) K dX3_init_61 (by decide) ?_
  refine l_newa (N' := 10) (ty := .int) K I 0 (by decide +kernel) rfl rfl (fun _ h => by cases h) rfl (by decide) (by decide) (by decide) (Nat.le_of_ble_eq_true rfl) (Nat.le_of_ble_eq_true rfl) dX3_init_63 ?_
  intro q63
  refine l_putF (ty := .array .int) K I 3 9 tyX3 tyX3_ok nmX3 (fun _ h => List.mem_cons_of_mem _ (List.mem_append_right _ h)) rfl (by decide) (by decide +kernel) rfl rfl (by decide +kernel) rfl rfl (Nat.le_of_ble_eq_true rfl) dX3_init_65 ?_
  refine l_aload_n K dX3_init_68 0 rfl ?_
  refine l_bipush (x := 10) K dX3_init_69 (by decide) ?_
  refine l_newa (N' := 10) (ty := .int) K I 0 (by decide +kernel) rfl rfl (fun _ h => by cases h) rfl (by decide) (by decide) (by decide) (Nat.le_of_ble_eq_true rfl) (Nat.le_of_ble_eq_true rfl) dX3_init_71 ?_
  intro q71
  refine l_putF (ty := .array .int) K I 3 10 tyX3 tyX3_ok nmX3 (fun _ h => List.mem_cons_of_mem _ (List.mem_append_right _ h)) rfl (by decide) (by decide +kernel) rfl rfl (by decide +kernel) rfl rfl (Nat.le_of_ble_eq_true rfl) dX3_init_73 ?_
  refine l_aload_n K dX3_init_76 0 rfl ?_
  refine l_bipush (x := 10) K dX3_init_77 (by decide) ?_
  refine l_newa (N' := 10) (ty := .int) K I 0 (by decide +kernel) rfl rfl (fun _ h => by cases h) rfl (by decide) (by decide) (by decide) (Nat.le_of_ble_eq_true rfl) (Nat.le_of_ble_eq_true rfl) dX3_init_79 ?_
  intro q79
  refine l_putF (ty := .array .int) K I 3 11 tyX3 tyX3_ok nmX3 (fun _ h => List.mem_cons_of_mem _ (List.mem_append_right _ h)) rfl (by decide) (by decide +kernel) rfl rfl (by decide +kernel) rfl rfl (Nat.le_of_ble_eq_true rfl) dX3_init_81 ?_
  exact hR _ _ (fun i => match i with | 1 => q7 | 2 => q15 | 3 => q23 | 4 => q31 | 5 => q39 | 6 => q47 | 7 => q55 | 8 => q63 | 9 => q71 | 10 => q79 | _ => 0) dX3_init_84

theorem hI_X8_init : yX8_init.cls ≠ "java/lang/invoke/MethodHandle" ∧ yX8_init.cls ≠ "java/lang/invoke/VarHandle" ∧ (parseMethodDescriptor yX8_init.desc).map (fun d => d.parameters.length) = some 0 := by decide +kernel
set_option maxRecDepth 100000 in
set_option maxHeartbeats 4000000 in
theorem ctX8_init {l : Launch} {D : va_G} {cI cZ cC cG cB : ClassId} {h0 sz : Nat} : CI l yX8_init wsX8_init 1 12 1 10 D vwCl (tysS cI cZ cC cG cB) nwI h0 sz (.inr (8, [.int 0, .int 0, .int 0, .int 0, .null])) (fun u => [(h0, .inr (8, [.int 0, .int 0, .int 0, .int 0, .ref (u 1)])), (u 1, .inl (cI, 10, .inl (fun _ => 0)))]) := by
  refine c_init (cc := cX8_init) (maxL := 1) (by decide) rfl rfl (Nat.le_of_ble_eq_true rfl) fun a b A hn K I hR => ?_
  have K : KS (Gi l { frames := 1, cells := 1, slots := 10, locals := 12 } D vwCl (tysS cI cZ cC cG cB) nwI a b A) cX8_init RX8 wsX8_init none := K
  have hn : x_n (Gi l { frames := 1, cells := 1, slots := 10, locals := 12 } D vwCl (tysS cI cZ cC cG cB) nwI a b A) = 1 := hn
  refine l_aload_n K dX8_init_0 0 rfl ?_
  refine l_obj K (by decide +kernel) (by decide +kernel) (by decide +kernel) rfl ⟨Nat.le_of_ble_eq_true rfl, Nat.le_of_ble_eq_true rfl⟩ dX8_init_1 ?_
  refine l_aload_n K dX8_init_4 0 rfl ?_
  refine l_bipush (x := 10) K dX8_init_5 (by decide) ?_
  refine l_newa (N' := 10) (ty := .int) K I 0 (by decide +kernel) rfl rfl (fun _ h => by cases h) rfl (by decide) (by decide) (by decide) (Nat.le_of_ble_eq_true rfl) (Nat.le_of_ble_eq_true rfl) dX8_init_7 ?_
  intro q7
  refine l_putF (ty := .array .int) K I 8 4 tyX8 tyX8_ok nmX8 (fun _ h => List.mem_cons_of_mem _ (List.mem_append_right _ h)) rfl (by decide) (by decide +kernel) rfl rfl (by decide +kernel) rfl rfl (Nat.le_of_ble_eq_true rfl) dX8_init_9 ?_
  exact hR _ _ (fun i => match i with | 1 => q7 | _ => 0) dX8_init_12

theorem hI_X7_init : yX7_init.cls ≠ "java/lang/invoke/MethodHandle" ∧ yX7_init.cls ≠ "java/lang/invoke/VarHandle" ∧ (parseMethodDescriptor yX7_init.desc).map (fun d => d.parameters.length) = some 0 := by decide +kernel
set_option maxRecDepth 100000 in
set_option maxHeartbeats 4000000 in
theorem ctX7_init {l : Launch} {D : va_G} {cI cZ cC cG cB : ClassId} {h0 sz : Nat} : CI l yX7_init wsX7_init 1 12 1 0 D vwCl (tysS cI cZ cC cG cB) nwI h0 sz (.inr (7, [.null, .int 0, .int 0, .int 0, .int 0, .int 0, .int 0])) (fun u => [(h0, .inr (7, [.ref (u 1), .int 0, .int 0, .int 0, .int 0, .int 0, .int 0])), (u 1, .inl (cC, 0, .inl (fun _ => 0)))]) := by
  refine c_init (cc := cX7_init) (maxL := 1) (by decide) rfl rfl (Nat.le_of_ble_eq_true rfl) fun a b A hn K I hR => ?_
  have K : KS (Gi l { frames := 1, cells := 1, slots := 0, locals := 12 } D vwCl (tysS cI cZ cC cG cB) nwI a b A) cX7_init RX7 wsX7_init none := K
  have hn : x_n (Gi l { frames := 1, cells := 1, slots := 0, locals := 12 } D vwCl (tysS cI cZ cC cG cB) nwI a b A) = 1 := hn
  refine l_aload_n K dX7_init_0 0 rfl ?_
  refine l_obj K (by decide +kernel) (by decide +kernel) (by decide +kernel) rfl ⟨Nat.le_of_ble_eq_true rfl, Nat.le_of_ble_eq_true rfl⟩ dX7_init_1 ?_
  refine l_aload_n K dX7_init_4 0 rfl ?_
  refine l_iconst (x := 0) K dX7_init_5 (by decide) ?_
  refine l_newa (N' := 0) (ty := .char) K I 2 (by decide +kernel) rfl rfl (fun _ h => by cases h) rfl (by decide) (by decide) (by decide) (Nat.le_of_ble_eq_true rfl) (Nat.le_of_ble_eq_true rfl) dX7_init_6 ?_
  intro q6
  refine l_put (ty := .array .char) K 7 0 tyX7 tyX7_ok nmX7 (fun _ h => List.mem_cons_of_mem _ (List.mem_append_right _ h)) rfl (by decide) (by decide +kernel) rfl (by decide +kernel) rfl rfl (Nat.le_of_ble_eq_true rfl) dX7_init_8 ?_
  exact hR _ _ (fun i => match i with | 1 => q6 | _ => 0) dX7_init_11

theorem hI_X1_init : yX1_init.cls ≠ "java/lang/invoke/MethodHandle" ∧ yX1_init.cls ≠ "java/lang/invoke/VarHandle" ∧ (parseMethodDescriptor yX1_init.desc).map (fun d => d.parameters.length) = some 0 := by decide +kernel
set_option maxRecDepth 100000 in
set_option maxHeartbeats 4000000 in
theorem ctX1_init {l : Launch} {D : va_G} {cI cZ cC cG cB : ClassId} {h0 sz : Nat} {e0 : va_E} : CI l yX1_init wsX1_init 1 12 0 0 D vwCl (tysS cI cZ cC cG cB) nwI h0 sz e0 (fun _ => [(h0, e0)]) := by
  refine c_init (cc := cX1_init) (maxL := 1) (by decide) rfl rfl (Nat.le_of_ble_eq_true rfl) fun a b A hn K I hR => ?_
  have K : KS (Gi l { frames := 1, cells := 0, slots := 0, locals := 12 } D vwCl (tysS cI cZ cC cG cB) nwI a b A) cX1_init RX1 wsX1_init none := K
  have hn : x_n (Gi l { frames := 1, cells := 0, slots := 0, locals := 12 } D vwCl (tysS cI cZ cC cG cB) nwI a b A) = 1 := hn
  refine l_aload_n K dX1_init_0 0 rfl ?_
  refine l_obj K (by decide +kernel) (by decide +kernel) (by decide +kernel) rfl ⟨Nat.le_of_ble_eq_true rfl, Nat.le_of_ble_eq_true rfl⟩ dX1_init_1 ?_
  exact hR _ _ (fun _ => 0) dX1_init_4

theorem hI_X9_init : yX9_init.cls ≠ "java/lang/invoke/MethodHandle" ∧ yX9_init.cls ≠ "java/lang/invoke/VarHandle" ∧ (parseMethodDescriptor yX9_init.desc).map (fun d => d.parameters.length) = some 0 := by decide +kernel
set_option maxRecDepth 100000 in
set_option maxHeartbeats 4000000 in
theorem ctX9_init {l : Launch} {D : va_G} {cI cZ cC cG cB : ClassId} {h0 sz : Nat} {e0 : va_E} : CI l yX9_init wsX9_init 2 32 0 0 D vwCl (tysS cI cZ cC cG cB) nwI h0 sz e0 (fun _ => [(h0, e0)]) := by
  refine c_init (cc := cX9_init) (maxL := 1) (by decide) rfl rfl (Nat.le_of_ble_eq_true rfl) fun a b A hn K I hR => ?_
  have K : KS (Gi l { frames := 2, cells := 0, slots := 0, locals := 32 } D vwCl (tysS cI cZ cC cG cB) nwI a b A) cX9_init RX9 wsX9_init none := K
  have hn : x_n (Gi l { frames := 2, cells := 0, slots := 0, locals := 32 } D vwCl (tysS cI cZ cC cG cB) nwI a b A) = 1 := hn
  refine l_aload_n K dX9_init_0 0 rfl ?_
  refine l_initN (ws0 := []) (host := "SlopeCoins") K I (fun _ => ctX1_init) ⟨va_cnB 0 K.ts gX9_init_X1_init_n1 rfl rfl rfl (K.nw _ (show Cond.methodLinkNest RX9 1 yX1_init "SlopeCoins" ∈ nwI by decide +kernel)).1 (K.ts _ (by decide +kernel)) hI_X1_init ⟨Nat.le_of_ble_eq_true rfl, Nat.le_of_ble_eq_true rfl⟩, rfl, K.ts _ (by decide +kernel)⟩ (Nat.le_of_ble_eq_true rfl) ⟨Nat.le_of_ble_eq_true rfl, Nat.le_of_ble_eq_true rfl⟩ dX9_init_1 ?_
  intro u1
  exact hR _ _ (fun _ => 0) dX9_init_4

theorem hI_X10_init : yX10_init.cls ≠ "java/lang/invoke/MethodHandle" ∧ yX10_init.cls ≠ "java/lang/invoke/VarHandle" ∧ (parseMethodDescriptor yX10_init.desc).map (fun d => d.parameters.length) = some 0 := by decide +kernel
set_option maxRecDepth 100000 in
set_option maxHeartbeats 4000000 in
theorem ctX10_init {l : Launch} {D : va_G} {cI cZ cC cG cB : ClassId} {h0 sz : Nat} {e0 : va_E} : CI l yX10_init wsX10_init 2 32 0 0 D vwCl (tysS cI cZ cC cG cB) nwI h0 sz e0 (fun _ => [(h0, e0)]) := by
  refine c_init (cc := cX10_init) (maxL := 1) (by decide) rfl rfl (Nat.le_of_ble_eq_true rfl) fun a b A hn K I hR => ?_
  have K : KS (Gi l { frames := 2, cells := 0, slots := 0, locals := 32 } D vwCl (tysS cI cZ cC cG cB) nwI a b A) cX10_init RX10 wsX10_init none := K
  have hn : x_n (Gi l { frames := 2, cells := 0, slots := 0, locals := 32 } D vwCl (tysS cI cZ cC cG cB) nwI a b A) = 1 := hn
  refine l_aload_n K dX10_init_0 0 rfl ?_
  refine l_initN (ws0 := []) (host := "SlopeCoins") K I (fun _ => ctX1_init) ⟨va_cnB 0 K.ts gX10_init_X1_init_n1 rfl rfl rfl (K.nw _ (show Cond.methodLinkNest RX10 1 yX1_init "SlopeCoins" ∈ nwI by decide +kernel)).1 (K.ts _ (by decide +kernel)) hI_X1_init ⟨Nat.le_of_ble_eq_true rfl, Nat.le_of_ble_eq_true rfl⟩, rfl, K.ts _ (by decide +kernel)⟩ (Nat.le_of_ble_eq_true rfl) ⟨Nat.le_of_ble_eq_true rfl, Nat.le_of_ble_eq_true rfl⟩ dX10_init_1 ?_
  intro u1
  exact hR _ _ (fun _ => 0) dX10_init_4

theorem hI_X0_init : yX0_init.cls ≠ "java/lang/invoke/MethodHandle" ∧ yX0_init.cls ≠ "java/lang/invoke/VarHandle" ∧ (parseMethodDescriptor yX0_init.desc).map (fun d => d.parameters.length) = some 0 := by decide +kernel
set_option maxRecDepth 100000 in
set_option maxHeartbeats 4000000 in
theorem ctX0_init {l : Launch} {D : va_G} {cI cZ cC cG cB : ClassId} {h0 sz : Nat} {e0 : va_E} : CI l yX0_init wsX0_init 3 52 0 0 D vwCl (tysS cI cZ cC cG cB) nwI h0 sz e0 (fun _ => [(h0, e0)]) := by
  refine c_init (cc := cX0_init) (maxL := 1) (by decide) rfl rfl (Nat.le_of_ble_eq_true rfl) fun a b A hn K I hR => ?_
  have K : KS (Gi l { frames := 3, cells := 0, slots := 0, locals := 52 } D vwCl (tysS cI cZ cC cG cB) nwI a b A) cX0_init RX0 wsX0_init none := K
  have hn : x_n (Gi l { frames := 3, cells := 0, slots := 0, locals := 52 } D vwCl (tysS cI cZ cC cG cB) nwI a b A) = 1 := hn
  refine l_aload_n K dX0_init_0 0 rfl ?_
  refine l_initN (ws0 := []) (host := "SlopeCoins") K I (fun _ => ctX9_init) ⟨va_cnB 0 K.ts gX0_init_X9_init_n1 rfl rfl rfl (K.nw _ (show Cond.methodLinkNest RX0 1 yX9_init "SlopeCoins" ∈ nwI by decide +kernel)).1 (K.ts _ (by decide +kernel)) hI_X9_init ⟨Nat.le_of_ble_eq_true rfl, Nat.le_of_ble_eq_true rfl⟩, rfl, K.ts _ (by decide +kernel)⟩ (Nat.le_of_ble_eq_true rfl) ⟨Nat.le_of_ble_eq_true rfl, Nat.le_of_ble_eq_true rfl⟩ dX0_init_1 ?_
  intro u1
  exact hR _ _ (fun _ => 0) dX0_init_4

theorem hI_X4_init : yX4_init.cls ≠ "java/lang/invoke/MethodHandle" ∧ yX4_init.cls ≠ "java/lang/invoke/VarHandle" ∧ (parseMethodDescriptor yX4_init.desc).map (fun d => d.parameters.length) = some 0 := by decide +kernel
set_option maxRecDepth 100000 in
set_option maxHeartbeats 4000000 in
theorem ctX4_init {l : Launch} {D : va_G} {cI cZ cC cG cB : ClassId} {h0 sz : Nat} {e0 : va_E} : CI l yX4_init wsX4_init 3 52 0 0 D vwCl (tysS cI cZ cC cG cB) nwI h0 sz e0 (fun _ => [(h0, e0)]) := by
  refine c_init (cc := cX4_init) (maxL := 1) (by decide) rfl rfl (Nat.le_of_ble_eq_true rfl) fun a b A hn K I hR => ?_
  have K : KS (Gi l { frames := 3, cells := 0, slots := 0, locals := 52 } D vwCl (tysS cI cZ cC cG cB) nwI a b A) cX4_init RX4 wsX4_init none := K
  have hn : x_n (Gi l { frames := 3, cells := 0, slots := 0, locals := 52 } D vwCl (tysS cI cZ cC cG cB) nwI a b A) = 1 := hn
  refine l_aload_n K dX4_init_0 0 rfl ?_
  refine l_initN (ws0 := []) (host := "SlopeCoins") K I (fun _ => ctX10_init) ⟨va_cnB 0 K.ts gX4_init_X10_init_n1 rfl rfl rfl (K.nw _ (show Cond.methodLinkNest RX4 1 yX10_init "SlopeCoins" ∈ nwI by decide +kernel)).1 (K.ts _ (by decide +kernel)) hI_X10_init ⟨Nat.le_of_ble_eq_true rfl, Nat.le_of_ble_eq_true rfl⟩, rfl, K.ts _ (by decide +kernel)⟩ (Nat.le_of_ble_eq_true rfl) ⟨Nat.le_of_ble_eq_true rfl, Nat.le_of_ble_eq_true rfl⟩ dX4_init_1 ?_
  intro u1
  exact hR _ _ (fun _ => 0) dX4_init_4

theorem hI_X5_init : yX5_init.cls ≠ "java/lang/invoke/MethodHandle" ∧ yX5_init.cls ≠ "java/lang/invoke/VarHandle" ∧ (parseMethodDescriptor yX5_init.desc).map (fun d => d.parameters.length) = some 0 := by decide +kernel
set_option maxRecDepth 100000 in
set_option maxHeartbeats 4000000 in
theorem ctX5_init {l : Launch} {D : va_G} {cI cZ cC cG cB : ClassId} {h0 sz : Nat} {e0 : va_E} : CI l yX5_init wsX5_init 2 32 0 0 D vwCl (tysS cI cZ cC cG cB) nwI h0 sz e0 (fun _ => [(h0, e0)]) := by
  refine c_init (cc := cX5_init) (maxL := 1) (by decide) rfl rfl (Nat.le_of_ble_eq_true rfl) fun a b A hn K I hR => ?_
  have K : KS (Gi l { frames := 2, cells := 0, slots := 0, locals := 32 } D vwCl (tysS cI cZ cC cG cB) nwI a b A) cX5_init RX5 wsX5_init none := K
  have hn : x_n (Gi l { frames := 2, cells := 0, slots := 0, locals := 32 } D vwCl (tysS cI cZ cC cG cB) nwI a b A) = 1 := hn
  refine l_aload_n K dX5_init_0 0 rfl ?_
  refine l_initN (ws0 := []) (host := "SlopeCoins") K I (fun _ => ctX1_init) ⟨va_cnB 0 K.ts gX5_init_X1_init_n1 rfl rfl rfl (K.nw _ (show Cond.methodLinkNest RX5 1 yX1_init "SlopeCoins" ∈ nwI by decide +kernel)).1 (K.ts _ (by decide +kernel)) hI_X1_init ⟨Nat.le_of_ble_eq_true rfl, Nat.le_of_ble_eq_true rfl⟩, rfl, K.ts _ (by decide +kernel)⟩ (Nat.le_of_ble_eq_true rfl) ⟨Nat.le_of_ble_eq_true rfl, Nat.le_of_ble_eq_true rfl⟩ dX5_init_1 ?_
  intro u1
  exact hR _ _ (fun _ => 0) dX5_init_4

/-- addresses: the object, then its rows -/
def adI (h0 : Nat) (u : Nat → Nat) : Nat → Nat := fun i => if i = 0 then h0 else u i

theorem l_mk_00 : l_mk 0 0 = 0 := by decide +kernel
set_option maxRecDepth 100000 in
theorem wM0_eq (cI cZ : ClassId) (h0 : Nat) (u : Nat → Nat) : w_d (mkM cI cZ (adI h0 u)) (adI h0 u) 17 sM0 = [(h0, .inr (12, [.ref (u 1), .ref (u 2), .ref (u 3), .int 0, .int 0, .int 0, .ref (u 4), .ref (u 5), .int 0, .ref (u 6), .int 0, .ref (u 7), .ref (u 8), .ref (u 9), .ref (u 10), .int 0, .long 0, .int 0, .int 0, .int 0, .int 0, .int 0, .ref (u 11), .ref (u 12), .ref (u 13), .int 0, .int 0, .ref (u 14), .int 0, .ref (u 15), .int (-9), .int (-9), .int 0, .int 0, .int 0, .ref (u 16)])), (u 1, .inl (cI, 5019, .inl (fun _ => 0))), (u 2, .inl (cZ, 2, .inl (fun _ => 0))), (u 3, .inl (cI, 200, .inl (fun _ => 0))), (u 4, .inl (cI, 30, .inl (fun _ => 0))), (u 5, .inl (cI, 30, .inl (fun _ => 0))), (u 6, .inl (cI, 2, .inl (fun _ => 0))), (u 7, .inl (cI, 5, .inl (fun _ => 0))), (u 8, .inl (cI, 5, .inl (fun _ => 0))), (u 9, .inl (cI, 5, .inl (fun _ => 0))), (u 10, .inl (cI, 18, .inl (fun _ => 0))), (u 11, .inl (cI, 30, .inl (fun _ => 0))), (u 12, .inl (cI, 2, .inl (fun _ => 0))), (u 13, .inl (cI, 30, .inl (fun _ => 0))), (u 14, .inl (cI, 15, .inl (fun _ => 0))), (u 15, .inl (cI, 3, .inl (fun _ => 0))), (u 16, .inl (cI, 10, .inl (fun _ => 0)))] := by
  have h : l_mk (sM0 0 100) (sM0 0 101) = 0 := l_mk_00
  have e := mM_0 cI cZ (adI h0 u) (sM0 0)
  rw [h] at e
  show (adI h0 u 0, mkM cI cZ (adI h0 u) 0 (sM0 0)) :: _ = _
  rw [e]
  rfl

theorem hI_X12_init : yX12_init.cls ≠ "java/lang/invoke/MethodHandle" ∧ yX12_init.cls ≠ "java/lang/invoke/VarHandle" ∧ (parseMethodDescriptor yX12_init.desc).map (fun d => d.parameters.length) = some 0 := by decide +kernel
set_option maxRecDepth 100000 in
set_option maxHeartbeats 4000000 in
theorem ctX12_init {l : Launch} {D : va_G} {cI cZ : ClassId} {h0 sz : Nat} : CI l yX12_init wsX12_init 1 12 16 5406 D vwCl (tysM cI cZ) nwI h0 sz (.inr (12, [.null, .null, .null, .int 0, .int 0, .int 0, .null, .null, .int 0, .null, .int 0, .null, .null, .null, .null, .int 0, .long 0, .int 0, .int 0, .int 0, .int 0, .int 0, .null, .null, .null, .int 0, .int 0, .null, .int 0, .null, .int 0, .int 0, .int 0, .int 0, .int 0, .null])) (fun u => [(h0, .inr (12, [.ref (u 1), .ref (u 2), .ref (u 3), .int 0, .int 0, .int 0, .ref (u 4), .ref (u 5), .int 0, .ref (u 6), .int 0, .ref (u 7), .ref (u 8), .ref (u 9), .ref (u 10), .int 0, .long 0, .int 0, .int 0, .int 0, .int 0, .int 0, .ref (u 11), .ref (u 12), .ref (u 13), .int 0, .int 0, .ref (u 14), .int 0, .ref (u 15), .int (-9), .int (-9), .int 0, .int 0, .int 0, .ref (u 16)])), (u 1, .inl (cI, 5019, .inl (fun _ => 0))), (u 2, .inl (cZ, 2, .inl (fun _ => 0))), (u 3, .inl (cI, 200, .inl (fun _ => 0))), (u 4, .inl (cI, 30, .inl (fun _ => 0))), (u 5, .inl (cI, 30, .inl (fun _ => 0))), (u 6, .inl (cI, 2, .inl (fun _ => 0))), (u 7, .inl (cI, 5, .inl (fun _ => 0))), (u 8, .inl (cI, 5, .inl (fun _ => 0))), (u 9, .inl (cI, 5, .inl (fun _ => 0))), (u 10, .inl (cI, 18, .inl (fun _ => 0))), (u 11, .inl (cI, 30, .inl (fun _ => 0))), (u 12, .inl (cI, 2, .inl (fun _ => 0))), (u 13, .inl (cI, 30, .inl (fun _ => 0))), (u 14, .inl (cI, 15, .inl (fun _ => 0))), (u 15, .inl (cI, 3, .inl (fun _ => 0))), (u 16, .inl (cI, 10, .inl (fun _ => 0)))]) := by
  refine c_init (cc := cX12_init) (maxL := 1) (by decide) rfl rfl (Nat.le_of_ble_eq_true rfl) fun a b A hn K I hR => ?_
  have K : KS (Gi l { frames := 1, cells := 16, slots := 5406, locals := 12 } D vwCl (tysM cI cZ) nwI a b A) cX12_init RX12 wsX12_init none := K
  have hn : x_n (Gi l { frames := 1, cells := 16, slots := 5406, locals := 12 } D vwCl (tysM cI cZ) nwI a b A) = 1 := hn
  refine l_aload_n K dX12_init_0 0 rfl ?_
  refine l_obj K (by decide +kernel) (by decide +kernel) (by decide +kernel) rfl ⟨Nat.le_of_ble_eq_true rfl, Nat.le_of_ble_eq_true rfl⟩ dX12_init_1 ?_
  refine l_aload_n K dX12_init_4 0 rfl ?_
  refine l_sipush (x := 5019) K dX12_init_5 (by decide) ?_
  refine l_newa (N' := 5019) (ty := .int) K I 0 (by decide +kernel) rfl rfl (fun _ h => by cases h) rfl (by decide) (by decide) (by decide) (Nat.le_of_ble_eq_true rfl) (Nat.le_of_ble_eq_true rfl) dX12_init_8 ?_
  intro q8
  refine l_putF (ty := .array .int) K I 12 0 tyX12 tyX12_ok nmX12 (fun _ h => List.mem_cons_of_mem _ (List.mem_append_right _ h)) rfl (by decide) (by decide +kernel) rfl rfl (by decide +kernel) rfl rfl (Nat.le_of_ble_eq_true rfl) dX12_init_10 ?_
  refine l_aload_n K dX12_init_13 0 rfl ?_
  refine l_iconst (x := 2) K dX12_init_14 (by decide) ?_
  refine l_newa (N' := 2) (ty := .boolean) K I 1 (by decide +kernel) rfl rfl (fun _ h => by cases h) rfl (by decide) (by decide) (by decide) (Nat.le_of_ble_eq_true rfl) (Nat.le_of_ble_eq_true rfl) dX12_init_15 ?_
  intro q15
  refine l_putF (ty := .array .boolean) K I 12 1 tyX12 tyX12_ok nmX12 (fun _ h => List.mem_cons_of_mem _ (List.mem_append_right _ h)) rfl (by decide) (by decide +kernel) rfl rfl (by decide +kernel) rfl rfl (Nat.le_of_ble_eq_true rfl) dX12_init_17 ?_
  refine l_aload_n K dX12_init_20 0 rfl ?_
  refine l_sipush (x := 200) K dX12_init_21 (by decide) ?_
  refine l_newa (N' := 200) (ty := .int) K I 0 (by decide +kernel) rfl rfl (fun _ h => by cases h) rfl (by decide) (by decide) (by decide) (Nat.le_of_ble_eq_true rfl) (Nat.le_of_ble_eq_true rfl) dX12_init_24 ?_
  intro q24
  refine l_putF (ty := .array .int) K I 12 2 tyX12 tyX12_ok nmX12 (fun _ h => List.mem_cons_of_mem _ (List.mem_append_right _ h)) rfl (by decide) (by decide +kernel) rfl rfl (by decide +kernel) rfl rfl (Nat.le_of_ble_eq_true rfl) dX12_init_26 ?_
  refine l_aload_n K dX12_init_29 0 rfl ?_
  refine l_bipush (x := 30) K dX12_init_30 (by decide) ?_
  refine l_newa (N' := 30) (ty := .int) K I 0 (by decide +kernel) rfl rfl (fun _ h => by cases h) rfl (by decide) (by decide) (by decide) (Nat.le_of_ble_eq_true rfl) (Nat.le_of_ble_eq_true rfl) dX12_init_32 ?_
  intro q32
  refine l_putF (ty := .array .int) K I 12 6 tyX12 tyX12_ok nmX12 (fun _ h => List.mem_cons_of_mem _ (List.mem_append_right _ h)) rfl (by decide) (by decide +kernel) rfl rfl (by decide +kernel) rfl rfl (Nat.le_of_ble_eq_true rfl) dX12_init_34 ?_
  refine l_aload_n K dX12_init_37 0 rfl ?_
  refine l_bipush (x := 30) K dX12_init_38 (by decide) ?_
  refine l_newa (N' := 30) (ty := .int) K I 0 (by decide +kernel) rfl rfl (fun _ h => by cases h) rfl (by decide) (by decide) (by decide) (Nat.le_of_ble_eq_true rfl) (Nat.le_of_ble_eq_true rfl) dX12_init_40 ?_
  intro q40
  refine l_putF (ty := .array .int) K I 12 7 tyX12 tyX12_ok nmX12 (fun _ h => List.mem_cons_of_mem _ (List.mem_append_right _ h)) rfl (by decide) (by decide +kernel) rfl rfl (by decide +kernel) rfl rfl (Nat.le_of_ble_eq_true rfl) dX12_init_42 ?_
  refine l_aload_n K dX12_init_45 0 rfl ?_
  refine l_iconst (x := 2) K dX12_init_46 (by decide) ?_
  refine l_newa (N' := 2) (ty := .int) K I 0 (by decide +kernel) rfl rfl (fun _ h => by cases h) rfl (by decide) (by decide) (by decide) (Nat.le_of_ble_eq_true rfl) (Nat.le_of_ble_eq_true rfl) dX12_init_47 ?_
  intro q47
  refine l_putF (ty := .array .int) K I 12 9 tyX12 tyX12_ok nmX12 (fun _ h => List.mem_cons_of_mem _ (List.mem_append_right _ h)) rfl (by decide) (by decide +kernel) rfl rfl (by decide +kernel) rfl rfl (Nat.le_of_ble_eq_true rfl) dX12_init_49 ?_
  refine l_aload_n K dX12_init_52 0 rfl ?_
  refine l_iconst (x := 5) K dX12_init_53 (by decide) ?_
  refine l_newa (N' := 5) (ty := .int) K I 0 (by decide +kernel) rfl rfl (fun _ h => by cases h) rfl (by decide) (by decide) (by decide) (Nat.le_of_ble_eq_true rfl) (Nat.le_of_ble_eq_true rfl) dX12_init_54 ?_
  intro q54
  refine l_putF (ty := .array .int) K I 12 11 tyX12 tyX12_ok nmX12 (fun _ h => List.mem_cons_of_mem _ (List.mem_append_right _ h)) rfl (by decide) (by decide +kernel) rfl rfl (by decide +kernel) rfl rfl (Nat.le_of_ble_eq_true rfl) dX12_init_56 ?_
  refine l_aload_n K dX12_init_59 0 rfl ?_
  refine l_iconst (x := 5) K dX12_init_60 (by decide) ?_
  refine l_newa (N' := 5) (ty := .int) K I 0 (by decide +kernel) rfl rfl (fun _ h => by cases h) rfl (by decide) (by decide) (by decide) (Nat.le_of_ble_eq_true rfl) (Nat.le_of_ble_eq_true rfl) dX12_init_61 ?_
  intro q61
  refine l_putF (ty := .array .int) K I 12 12 tyX12 tyX12_ok nmX12 (fun _ h => List.mem_cons_of_mem _ (List.mem_append_right _ h)) rfl (by decide) (by decide +kernel) rfl rfl (by decide +kernel) rfl rfl (Nat.le_of_ble_eq_true rfl) dX12_init_63 ?_
  refine l_aload_n K dX12_init_66 0 rfl ?_
  refine l_iconst (x := 5) K dX12_init_67 (by decide) ?_
  refine l_newa (N' := 5) (ty := .int) K I 0 (by decide +kernel) rfl rfl (fun _ h => by cases h) rfl (by decide) (by decide) (by decide) (Nat.le_of_ble_eq_true rfl) (Nat.le_of_ble_eq_true rfl) dX12_init_68 ?_
  intro q68
  refine l_putF (ty := .array .int) K I 12 13 tyX12 tyX12_ok nmX12 (fun _ h => List.mem_cons_of_mem _ (List.mem_append_right _ h)) rfl (by decide) (by decide +kernel) rfl rfl (by decide +kernel) rfl rfl (Nat.le_of_ble_eq_true rfl) dX12_init_70 ?_
  refine l_aload_n K dX12_init_73 0 rfl ?_
  refine l_bipush (x := 18) K dX12_init_74 (by decide) ?_
  refine l_newa (N' := 18) (ty := .int) K I 0 (by decide +kernel) rfl rfl (fun _ h => by cases h) rfl (by decide) (by decide) (by decide) (Nat.le_of_ble_eq_true rfl) (Nat.le_of_ble_eq_true rfl) dX12_init_76 ?_
  intro q76
  refine l_putF (ty := .array .int) K I 12 14 tyX12 tyX12_ok nmX12 (fun _ h => List.mem_cons_of_mem _ (List.mem_append_right _ h)) rfl (by decide) (by decide +kernel) rfl rfl (by decide +kernel) rfl rfl (Nat.le_of_ble_eq_true rfl) dX12_init_78 ?_
  refine l_aload_n K dX12_init_81 0 rfl ?_
  refine l_bipush (x := 30) K dX12_init_82 (by decide) ?_
  refine l_newa (N' := 30) (ty := .int) K I 0 (by decide +kernel) rfl rfl (fun _ h => by cases h) rfl (by decide) (by decide) (by decide) (Nat.le_of_ble_eq_true rfl) (Nat.le_of_ble_eq_true rfl) dX12_init_84 ?_
  intro q84
  refine l_putF (ty := .array .int) K I 12 22 tyX12 tyX12_ok nmX12 (fun _ h => List.mem_cons_of_mem _ (List.mem_append_right _ h)) rfl (by decide) (by decide +kernel) rfl rfl (by decide +kernel) rfl rfl (Nat.le_of_ble_eq_true rfl) dX12_init_86 ?_
  refine l_aload_n K dX12_init_89 0 rfl ?_
  refine l_iconst (x := 2) K dX12_init_90 (by decide) ?_
  refine l_newa (N' := 2) (ty := .int) K I 0 (by decide +kernel) rfl rfl (fun _ h => by cases h) rfl (by decide) (by decide) (by decide) (Nat.le_of_ble_eq_true rfl) (Nat.le_of_ble_eq_true rfl) dX12_init_91 ?_
  intro q91
  refine l_putF (ty := .array .int) K I 12 23 tyX12 tyX12_ok nmX12 (fun _ h => List.mem_cons_of_mem _ (List.mem_append_right _ h)) rfl (by decide) (by decide +kernel) rfl rfl (by decide +kernel) rfl rfl (Nat.le_of_ble_eq_true rfl) dX12_init_93 ?_
  refine l_aload_n K dX12_init_96 0 rfl ?_
  refine l_bipush (x := 30) K dX12_init_97 (by decide) ?_
  refine l_newa (N' := 30) (ty := .int) K I 0 (by decide +kernel) rfl rfl (fun _ h => by cases h) rfl (by decide) (by decide) (by decide) (Nat.le_of_ble_eq_true rfl) (Nat.le_of_ble_eq_true rfl) dX12_init_99 ?_
  intro q99
  refine l_putF (ty := .array .int) K I 12 24 tyX12 tyX12_ok nmX12 (fun _ h => List.mem_cons_of_mem _ (List.mem_append_right _ h)) rfl (by decide) (by decide +kernel) rfl rfl (by decide +kernel) rfl rfl (Nat.le_of_ble_eq_true rfl) dX12_init_101 ?_
  refine l_aload_n K dX12_init_104 0 rfl ?_
  refine l_bipush (x := 15) K dX12_init_105 (by decide) ?_
  refine l_newa (N' := 15) (ty := .int) K I 0 (by decide +kernel) rfl rfl (fun _ h => by cases h) rfl (by decide) (by decide) (by decide) (Nat.le_of_ble_eq_true rfl) (Nat.le_of_ble_eq_true rfl) dX12_init_107 ?_
  intro q107
  refine l_putF (ty := .array .int) K I 12 27 tyX12 tyX12_ok nmX12 (fun _ h => List.mem_cons_of_mem _ (List.mem_append_right _ h)) rfl (by decide) (by decide +kernel) rfl rfl (by decide +kernel) rfl rfl (Nat.le_of_ble_eq_true rfl) dX12_init_109 ?_
  refine l_aload_n K dX12_init_112 0 rfl ?_
  refine l_iconst (x := 3) K dX12_init_113 (by decide) ?_
  refine l_newa (N' := 3) (ty := .int) K I 0 (by decide +kernel) rfl rfl (fun _ h => by cases h) rfl (by decide) (by decide) (by decide) (Nat.le_of_ble_eq_true rfl) (Nat.le_of_ble_eq_true rfl) dX12_init_114 ?_
  intro q114
  refine l_putF (ty := .array .int) K I 12 29 tyX12 tyX12_ok nmX12 (fun _ h => List.mem_cons_of_mem _ (List.mem_append_right _ h)) rfl (by decide) (by decide +kernel) rfl rfl (by decide +kernel) rfl rfl (Nat.le_of_ble_eq_true rfl) dX12_init_116 ?_
  refine l_aload_n K dX12_init_119 0 rfl ?_
  refine l_bipush (x := (-9)) K dX12_init_120 (by decide) ?_
  refine l_put (ty := .int) K 12 30 tyX12 tyX12_ok nmX12 (fun _ h => List.mem_cons_of_mem _ (List.mem_append_right _ h)) rfl (by decide) (by decide +kernel) rfl (by decide +kernel) (vp_nar_int _) rfl (Nat.le_of_ble_eq_true rfl) dX12_init_122 ?_
  refine l_aload_n K dX12_init_125 0 rfl ?_
  refine l_bipush (x := (-9)) K dX12_init_126 (by decide) ?_
  refine l_put (ty := .int) K 12 31 tyX12 tyX12_ok nmX12 (fun _ h => List.mem_cons_of_mem _ (List.mem_append_right _ h)) rfl (by decide) (by decide +kernel) rfl (by decide +kernel) (vp_nar_int _) rfl (Nat.le_of_ble_eq_true rfl) dX12_init_128 ?_
  refine l_aload_n K dX12_init_131 0 rfl ?_
  refine l_bipush (x := 10) K dX12_init_132 (by decide) ?_
  refine l_newa (N' := 10) (ty := .int) K I 0 (by decide +kernel) rfl rfl (fun _ h => by cases h) rfl (by decide) (by decide) (by decide) (Nat.le_of_ble_eq_true rfl) (Nat.le_of_ble_eq_true rfl) dX12_init_134 ?_
  intro q134
  refine l_putF (ty := .array .int) K I 12 35 tyX12 tyX12_ok nmX12 (fun _ h => List.mem_cons_of_mem _ (List.mem_append_right _ h)) rfl (by decide) (by decide +kernel) rfl rfl (by decide +kernel) rfl rfl (Nat.le_of_ble_eq_true rfl) dX12_init_136 ?_
  exact hR _ _ (fun i => match i with | 1 => q8 | 2 => q15 | 3 => q24 | 4 => q32 | 5 => q40 | 6 => q47 | 7 => q54 | 8 => q61 | 9 => q68 | 10 => q76 | 11 => q84 | 12 => q91 | 13 => q99 | 14 => q107 | 15 => q114 | 16 => q134 | _ => 0) dX12_init_139

section LL3
variable {Γ : Cx} {cc : ByteArray} {own : String} {Ts : List Cond} {ret : Option FieldType} {pc : Nat} {lv : List (Nat × Value)} {st : List Value} {ws : va_W} {nc ns : Nat} {x : Int32}
theorem l_w {ws' : va_W} (h : ws = ws') (kk : Wl Γ pc lv st ws' nc ns) : Wl Γ pc lv st ws nc ns := by subst h; exact kk
theorem l_astq (K : KS Γ cc own Ts ret) (q0 t0 qk ci : Nat) {a v n : Nat} {cA : ClassId} {r : vw_C} {vs : List Value} {f : Nat → Option Nat} (ha : ws[q0]? = some (a, .inl (cA, n, .inr (.inr (.inr (.inr f)))))) (ht : (x_ty Γ)[t0]? = some (cA, .object r.1)) (hv : ws[qk]? = some (v, .inr (ci, vs))) (hc : (x_cl Γ)[ci]? = some r) (hin : ib x n) (hdg : decode cc pc = .ok (.aastore, 1)) (kk : Wl Γ (pc + 1) lv st (ws.set q0 (a, .inl (cA, n, .inr (.inr (.inr (.inr (va_up f (nx x) (some v)))))))) nc ns) : Wl Γ pc lv (.ref v :: .int x :: .ref a :: st) ws nc ns := fun H locs ls hP hD hS hl => va_astq K.1 K.2.1 K.vk hP hD hS q0 t0 qk ci ha ht hv hc hin hdg (fun H1 locs1 hP1 hD1 hS1 => kk H1 locs1 ls hP1 hD1 hS1 hl)
theorem l_astqO (K : KS Γ cc own Ts ret) (q0 t0 qk ci : Nat) {a v n : Nat} {E : String} {cA : ClassId} {r : vw_C} {vs : List Value} {f : Nat → Option Nat} (ha : ws[q0]? = some (a, .inl (cA, n, .inr (.inr (.inr (.inr f)))))) (ht : (x_ty Γ)[t0]? = some (cA, .object E)) (hca : va_Nw (.castable r.1 E) (x_s Γ)) (hv : ws[qk]? = some (v, .inr (ci, vs))) (hc : (x_cl Γ)[ci]? = some r) (hin : ib x n) (hdg : decode cc pc = .ok (.aastore, 1)) (kk : Wl Γ (pc + 1) lv st (ws.set q0 (a, .inl (cA, n, .inr (.inr (.inr (.inr (va_up f (nx x) (some v)))))))) nc ns) : Wl Γ pc lv (.ref v :: .int x :: .ref a :: st) ws nc ns := fun H locs ls hP hD hS hl => va_astqO K.1 K.2.1 K.vk hP hD hS q0 t0 qk ci ha ht hca hv hc hin hdg (fun H1 locs1 hP1 hD1 hS1 => kk H1 locs1 ls hP1 hD1 hS1 hl)
end LL3

theorem hI_X6_init : yX6_init.cls ≠ "java/lang/invoke/MethodHandle" ∧ yX6_init.cls ≠ "java/lang/invoke/VarHandle" ∧ (parseMethodDescriptor yX6_init.desc).map (fun d => d.parameters.length) = some 0 := by decide +kernel
set_option maxRecDepth 100000 in
set_option maxHeartbeats 4000000 in
theorem ctX6_init {l : Launch} {D : va_G} {cI cZ cC cG cB : ClassId} {h0 sz : Nat} : CI l yX6_init wsX6_init 2 32 6 45 D vwCl (tysS cI cZ cC cG cB) nwI h0 sz (.inr (6, [.int 0, .int 0, .int 0, .null, .null, .null])) (fun u => [(h0, .inr (6, [.int 0, .int 0, .int 0, .ref (u 1), .ref (u 3), .ref (u 5)])), (u 1, .inr (8, [.int 0, .int 0, .int 0, .int 0, .ref (u 2)])), (u 2, .inl (cI, 10, .inl (fun _ => 0))), (u 3, .inr (8, [.int 0, .int 0, .int 0, .int 0, .ref (u 4)])), (u 4, .inl (cI, 10, .inl (fun _ => 0))), (u 5, .inr (8, [.int 0, .int 0, .int 0, .int 0, .ref (u 6)])), (u 6, .inl (cI, 10, .inl (fun _ => 0)))]) := by
  refine c_init (cc := cX6_init) (maxL := 1) (by decide) rfl rfl (Nat.le_of_ble_eq_true rfl) fun a b A hn K I hR => ?_
  have K : KS (Gi l { frames := 2, cells := 6, slots := 45, locals := 32 } D vwCl (tysS cI cZ cC cG cB) nwI a b A) cX6_init RX6 wsX6_init none := K
  have hn : x_n (Gi l { frames := 2, cells := 6, slots := 45, locals := 32 } D vwCl (tysS cI cZ cC cG cB) nwI a b A) = 1 := hn
  refine l_aload_n K dX6_init_0 0 rfl ?_
  refine l_obj K (by decide +kernel) (by decide +kernel) (by decide +kernel) rfl ⟨Nat.le_of_ble_eq_true rfl, Nat.le_of_ble_eq_true rfl⟩ dX6_init_1 ?_
  refine l_aload_n K dX6_init_4 0 rfl ?_
  refine l_new (fs := [.int 0, .int 0, .int 0, .int 0, .null]) K I 8 tyX8 tyX8_ok (fun _ h => List.mem_cons_of_mem _ (List.mem_append_left _ (List.mem_append_right _ h))) rfl (by decide +kernel) (by decide +kernel) (by decide +kernel) (fun j hj => by rcases (show j = 0 ∨ j = 1 ∨ j = 2 ∨ j = 3 ∨ j = 4 by omega) with rfl | rfl | rfl | rfl | rfl <;> rfl) (Nat.le_of_ble_eq_true rfl) (Nat.le_of_ble_eq_true rfl) dX6_init_5 ?_
  intro q5_4
  refine l_dup K dX6_init_8 rfl ?_
  refine l_initN (host := "SlopeCoins") K I (fun _ => ctX8_init) ⟨va_cnB 0 K.ts gX6_init_X8_init_n11 rfl rfl rfl (K.nw _ (show Cond.methodLinkNest RX6 11 yX8_init "SlopeCoins" ∈ nwI by decide +kernel)).1 (K.ts _ (by decide +kernel)) hI_X8_init ⟨Nat.le_of_ble_eq_true rfl, Nat.le_of_ble_eq_true rfl⟩, rfl, K.ts _ (by decide +kernel)⟩ (Nat.le_of_ble_eq_true rfl) ⟨Nat.le_of_ble_eq_true rfl, Nat.le_of_ble_eq_true rfl⟩ dX6_init_9 ?_
  intro u9_6
  refine l_w (ws' := [(h0, .inr (6, [.int 0, .int 0, .int 0, .null, .null, .null])), (q5_4, .inr (8, [.int 0, .int 0, .int 0, .int 0, .ref (u9_6 1)])), ((u9_6 1), .inl (cI, 10, .inl (fun _ => 0)))]) rfl ?_
  refine l_putF (ty := .object "SlopeCoins$Roll") K I 6 3 tyX6 tyX6_ok nmX6 (fun _ h => List.mem_cons_of_mem _ (List.mem_append_right _ h)) rfl (by decide) (by decide +kernel) rfl rfl (by decide +kernel) rfl rfl (Nat.le_of_ble_eq_true rfl) dX6_init_12 ?_
  refine l_w (ws' := [(h0, .inr (6, [.int 0, .int 0, .int 0, .ref q5_4, .null, .null])), (q5_4, .inr (8, [.int 0, .int 0, .int 0, .int 0, .ref (u9_6 1)])), ((u9_6 1), .inl (cI, 10, .inl (fun _ => 0)))]) rfl ?_
  refine l_aload_n K dX6_init_15 0 rfl ?_
  refine l_new (fs := [.int 0, .int 0, .int 0, .int 0, .null]) K I 8 tyX8 tyX8_ok (fun _ h => List.mem_cons_of_mem _ (List.mem_append_left _ (List.mem_append_right _ h))) rfl (by decide +kernel) (by decide +kernel) (by decide +kernel) (fun j hj => by rcases (show j = 0 ∨ j = 1 ∨ j = 2 ∨ j = 3 ∨ j = 4 by omega) with rfl | rfl | rfl | rfl | rfl <;> rfl) (Nat.le_of_ble_eq_true rfl) (Nat.le_of_ble_eq_true rfl) dX6_init_16 ?_
  intro q16_9
  refine l_dup K dX6_init_19 rfl ?_
  refine l_initN (host := "SlopeCoins") K I (fun _ => ctX8_init) ⟨va_cnB 0 K.ts gX6_init_X8_init_n11 rfl rfl rfl (K.nw _ (show Cond.methodLinkNest RX6 11 yX8_init "SlopeCoins" ∈ nwI by decide +kernel)).1 (K.ts _ (by decide +kernel)) hI_X8_init ⟨Nat.le_of_ble_eq_true rfl, Nat.le_of_ble_eq_true rfl⟩, rfl, K.ts _ (by decide +kernel)⟩ (Nat.le_of_ble_eq_true rfl) ⟨Nat.le_of_ble_eq_true rfl, Nat.le_of_ble_eq_true rfl⟩ dX6_init_20 ?_
  intro u20_11
  refine l_w (ws' := [(h0, .inr (6, [.int 0, .int 0, .int 0, .ref q5_4, .null, .null])), (q5_4, .inr (8, [.int 0, .int 0, .int 0, .int 0, .ref (u9_6 1)])), ((u9_6 1), .inl (cI, 10, .inl (fun _ => 0))), (q16_9, .inr (8, [.int 0, .int 0, .int 0, .int 0, .ref (u20_11 1)])), ((u20_11 1), .inl (cI, 10, .inl (fun _ => 0)))]) rfl ?_
  refine l_putF (ty := .object "SlopeCoins$Roll") K I 6 4 tyX6 tyX6_ok nmX6 (fun _ h => List.mem_cons_of_mem _ (List.mem_append_right _ h)) rfl (by decide) (by decide +kernel) rfl rfl (by decide +kernel) rfl rfl (Nat.le_of_ble_eq_true rfl) dX6_init_23 ?_
  refine l_w (ws' := [(h0, .inr (6, [.int 0, .int 0, .int 0, .ref q5_4, .ref q16_9, .null])), (q5_4, .inr (8, [.int 0, .int 0, .int 0, .int 0, .ref (u9_6 1)])), ((u9_6 1), .inl (cI, 10, .inl (fun _ => 0))), (q16_9, .inr (8, [.int 0, .int 0, .int 0, .int 0, .ref (u20_11 1)])), ((u20_11 1), .inl (cI, 10, .inl (fun _ => 0)))]) rfl ?_
  refine l_aload_n K dX6_init_26 0 rfl ?_
  refine l_new (fs := [.int 0, .int 0, .int 0, .int 0, .null]) K I 8 tyX8 tyX8_ok (fun _ h => List.mem_cons_of_mem _ (List.mem_append_left _ (List.mem_append_right _ h))) rfl (by decide +kernel) (by decide +kernel) (by decide +kernel) (fun j hj => by rcases (show j = 0 ∨ j = 1 ∨ j = 2 ∨ j = 3 ∨ j = 4 by omega) with rfl | rfl | rfl | rfl | rfl <;> rfl) (Nat.le_of_ble_eq_true rfl) (Nat.le_of_ble_eq_true rfl) dX6_init_27 ?_
  intro q27_14
  refine l_dup K dX6_init_30 rfl ?_
  refine l_initN (host := "SlopeCoins") K I (fun _ => ctX8_init) ⟨va_cnB 0 K.ts gX6_init_X8_init_n11 rfl rfl rfl (K.nw _ (show Cond.methodLinkNest RX6 11 yX8_init "SlopeCoins" ∈ nwI by decide +kernel)).1 (K.ts _ (by decide +kernel)) hI_X8_init ⟨Nat.le_of_ble_eq_true rfl, Nat.le_of_ble_eq_true rfl⟩, rfl, K.ts _ (by decide +kernel)⟩ (Nat.le_of_ble_eq_true rfl) ⟨Nat.le_of_ble_eq_true rfl, Nat.le_of_ble_eq_true rfl⟩ dX6_init_31 ?_
  intro u31_16
  refine l_w (ws' := [(h0, .inr (6, [.int 0, .int 0, .int 0, .ref q5_4, .ref q16_9, .null])), (q5_4, .inr (8, [.int 0, .int 0, .int 0, .int 0, .ref (u9_6 1)])), ((u9_6 1), .inl (cI, 10, .inl (fun _ => 0))), (q16_9, .inr (8, [.int 0, .int 0, .int 0, .int 0, .ref (u20_11 1)])), ((u20_11 1), .inl (cI, 10, .inl (fun _ => 0))), (q27_14, .inr (8, [.int 0, .int 0, .int 0, .int 0, .ref (u31_16 1)])), ((u31_16 1), .inl (cI, 10, .inl (fun _ => 0)))]) rfl ?_
  refine l_putF (ty := .object "SlopeCoins$Roll") K I 6 5 tyX6 tyX6_ok nmX6 (fun _ h => List.mem_cons_of_mem _ (List.mem_append_right _ h)) rfl (by decide) (by decide +kernel) rfl rfl (by decide +kernel) rfl rfl (Nat.le_of_ble_eq_true rfl) dX6_init_34 ?_
  refine l_w (ws' := [(h0, .inr (6, [.int 0, .int 0, .int 0, .ref q5_4, .ref q16_9, .ref q27_14])), (q5_4, .inr (8, [.int 0, .int 0, .int 0, .int 0, .ref (u9_6 1)])), ((u9_6 1), .inl (cI, 10, .inl (fun _ => 0))), (q16_9, .inr (8, [.int 0, .int 0, .int 0, .int 0, .ref (u20_11 1)])), ((u20_11 1), .inl (cI, 10, .inl (fun _ => 0))), (q27_14, .inr (8, [.int 0, .int 0, .int 0, .int 0, .ref (u31_16 1)])), ((u31_16 1), .inl (cI, 10, .inl (fun _ => 0)))]) rfl ?_
  exact hR _ _ (fun i => match i with | 1 => q5_4 | 2 => (u9_6 1) | 3 => q16_9 | 4 => (u20_11 1) | 5 => q27_14 | 6 => (u31_16 1) | _ => 0) dX6_init_37

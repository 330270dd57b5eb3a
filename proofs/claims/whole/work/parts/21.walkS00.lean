/-! walks, by program -/
theorem hSJ7_fill_53178 : yJ7_fill_53178.cls ≠ "java/lang/invoke/MethodHandle" ∧ yJ7_fill_53178.cls ≠ "java/lang/invoke/VarHandle" ∧ (parseMethodDescriptor yJ7_fill_53178.desc).map (fun d => d.parameters.length) = some 2 := by decide +kernel
theorem hVX2_wipe : yX2_wipe.cls = RX2 ∧ yX2_wipe.cls ≠ "java/lang/invoke/MethodHandle" ∧ yX2_wipe.cls ≠ "java/lang/invoke/VarHandle" ∧ (parseMethodDescriptor yX2_wipe.desc).map (fun d => d.parameters.length) = some 0 := by decide +kernel
theorem hVX2_cellAt : yX2_cellAt.cls = RX2 ∧ yX2_cellAt.cls ≠ "java/lang/invoke/MethodHandle" ∧ yX2_cellAt.cls ≠ "java/lang/invoke/VarHandle" ∧ (parseMethodDescriptor yX2_cellAt.desc).map (fun d => d.parameters.length) = some 2 := by decide +kernel
theorem hVX2_noteBeside : yX2_noteBeside.cls = RX2 ∧ yX2_noteBeside.cls ≠ "java/lang/invoke/MethodHandle" ∧ yX2_noteBeside.cls ≠ "java/lang/invoke/VarHandle" ∧ (parseMethodDescriptor yX2_noteBeside.desc).map (fun d => d.parameters.length) = some 3 := by decide +kernel
theorem hVX2_stretch : yX2_stretch.cls = RX2 ∧ yX2_stretch.cls ≠ "java/lang/invoke/MethodHandle" ∧ yX2_stretch.cls ≠ "java/lang/invoke/VarHandle" ∧ (parseMethodDescriptor yX2_stretch.desc).map (fun d => d.parameters.length) = some 2 := by decide +kernel
theorem hVX2_besideOf : yX2_besideOf.cls = RX2 ∧ yX2_besideOf.cls ≠ "java/lang/invoke/MethodHandle" ∧ yX2_besideOf.cls ≠ "java/lang/invoke/VarHandle" ∧ (parseMethodDescriptor yX2_besideOf.desc).map (fun d => d.parameters.length) = some 2 := by decide +kernel
theorem hSX2_facing : yX2_facing.cls ≠ "java/lang/invoke/MethodHandle" ∧ yX2_facing.cls ≠ "java/lang/invoke/VarHandle" ∧ (parseMethodDescriptor yX2_facing.desc).map (fun d => d.parameters.length) = some 1 := by decide +kernel
theorem hVX2_addKerb : yX2_addKerb.cls = RX2 ∧ yX2_addKerb.cls ≠ "java/lang/invoke/MethodHandle" ∧ yX2_addKerb.cls ≠ "java/lang/invoke/VarHandle" ∧ (parseMethodDescriptor yX2_addKerb.desc).map (fun d => d.parameters.length) = some 2 := by decide +kernel
theorem hVX2_addKind : yX2_addKind.cls = RX2 ∧ yX2_addKind.cls ≠ "java/lang/invoke/MethodHandle" ∧ yX2_addKind.cls ≠ "java/lang/invoke/VarHandle" ∧ (parseMethodDescriptor yX2_addKind.desc).map (fun d => d.parameters.length) = some 3 := by decide +kernel
theorem hVX2_cellOfPair : yX2_cellOfPair.cls = RX2 ∧ yX2_cellOfPair.cls ≠ "java/lang/invoke/MethodHandle" ∧ yX2_cellOfPair.cls ≠ "java/lang/invoke/VarHandle" ∧ (parseMethodDescriptor yX2_cellOfPair.desc).map (fun d => d.parameters.length) = some 1 := by decide +kernel
theorem hVX2_pairOf : yX2_pairOf.cls = RX2 ∧ yX2_pairOf.cls ≠ "java/lang/invoke/MethodHandle" ∧ yX2_pairOf.cls ≠ "java/lang/invoke/VarHandle" ∧ (parseMethodDescriptor yX2_pairOf.desc).map (fun d => d.parameters.length) = some 1 := by decide +kernel
theorem hSX3_copyRow : yX3_copyRow.cls ≠ "java/lang/invoke/MethodHandle" ∧ yX3_copyRow.cls ≠ "java/lang/invoke/VarHandle" ∧ (parseMethodDescriptor yX3_copyRow.desc).map (fun d => d.parameters.length) = some 2 := by decide +kernel
theorem hVX3_layOut : yX3_layOut.cls = RX3 ∧ yX3_layOut.cls ≠ "java/lang/invoke/MethodHandle" ∧ yX3_layOut.cls ≠ "java/lang/invoke/VarHandle" ∧ (parseMethodDescriptor yX3_layOut.desc).map (fun d => d.parameters.length) = some 1 := by decide +kernel
theorem hVX3_copyOf : yX3_copyOf.cls = RX3 ∧ yX3_copyOf.cls ≠ "java/lang/invoke/MethodHandle" ∧ yX3_copyOf.cls ≠ "java/lang/invoke/VarHandle" ∧ (parseMethodDescriptor yX3_copyOf.desc).map (fun d => d.parameters.length) = some 1 := by decide +kernel
theorem hVX3_addCoins : yX3_addCoins.cls = RX3 ∧ yX3_addCoins.cls ≠ "java/lang/invoke/MethodHandle" ∧ yX3_addCoins.cls ≠ "java/lang/invoke/VarHandle" ∧ (parseMethodDescriptor yX3_addCoins.desc).map (fun d => d.parameters.length) = some 4 := by decide +kernel
theorem hSX3_loseOldest : yX3_loseOldest.cls ≠ "java/lang/invoke/MethodHandle" ∧ yX3_loseOldest.cls ≠ "java/lang/invoke/VarHandle" ∧ (parseMethodDescriptor yX3_loseOldest.desc).map (fun d => d.parameters.length) = some 1 := by decide +kernel
theorem hVX3_note : yX3_note.cls = RX3 ∧ yX3_note.cls ≠ "java/lang/invoke/MethodHandle" ∧ yX3_note.cls ≠ "java/lang/invoke/VarHandle" ∧ (parseMethodDescriptor yX3_note.desc).map (fun d => d.parameters.length) = some 4 := by decide +kernel
theorem hVX3_letCome : yX3_letCome.cls = RX3 ∧ yX3_letCome.cls ≠ "java/lang/invoke/MethodHandle" ∧ yX3_letCome.cls ≠ "java/lang/invoke/VarHandle" ∧ (parseMethodDescriptor yX3_letCome.desc).map (fun d => d.parameters.length) = some 3 := by decide +kernel
theorem hVX3_turnPlank : yX3_turnPlank.cls = RX3 ∧ yX3_turnPlank.cls ≠ "java/lang/invoke/MethodHandle" ∧ yX3_turnPlank.cls ≠ "java/lang/invoke/VarHandle" ∧ (parseMethodDescriptor yX3_turnPlank.desc).map (fun d => d.parameters.length) = some 3 := by decide +kernel
theorem hVX3_changePlank : yX3_changePlank.cls = RX3 ∧ yX3_changePlank.cls ≠ "java/lang/invoke/MethodHandle" ∧ yX3_changePlank.cls ≠ "java/lang/invoke/VarHandle" ∧ (parseMethodDescriptor yX3_changePlank.desc).map (fun d => d.parameters.length) = some 3 := by decide +kernel
theorem hVX3_moveCobble : yX3_moveCobble.cls = RX3 ∧ yX3_moveCobble.cls ≠ "java/lang/invoke/MethodHandle" ∧ yX3_moveCobble.cls ≠ "java/lang/invoke/VarHandle" ∧ (parseMethodDescriptor yX3_moveCobble.desc).map (fun d => d.parameters.length) = some 2 := by decide +kernel
theorem hVX3_sweepAway : yX3_sweepAway.cls = RX3 ∧ yX3_sweepAway.cls ≠ "java/lang/invoke/MethodHandle" ∧ yX3_sweepAway.cls ≠ "java/lang/invoke/VarHandle" ∧ (parseMethodDescriptor yX3_sweepAway.desc).map (fun d => d.parameters.length) = some 1 := by decide +kernel
theorem hVX3_takeBack : yX3_takeBack.cls = RX3 ∧ yX3_takeBack.cls ≠ "java/lang/invoke/MethodHandle" ∧ yX3_takeBack.cls ≠ "java/lang/invoke/VarHandle" ∧ (parseMethodDescriptor yX3_takeBack.desc).map (fun d => d.parameters.length) = some 1 := by decide +kernel
theorem hVX8_wayDown : yX8_wayDown.cls = RX8 ∧ yX8_wayDown.cls ≠ "java/lang/invoke/MethodHandle" ∧ yX8_wayDown.cls ≠ "java/lang/invoke/VarHandle" ∧ (parseMethodDescriptor yX8_wayDown.desc).map (fun d => d.parameters.length) = some 4 := by decide +kernel
theorem hSX8_sideOf : yX8_sideOf.cls ≠ "java/lang/invoke/MethodHandle" ∧ yX8_sideOf.cls ≠ "java/lang/invoke/VarHandle" ∧ (parseMethodDescriptor yX8_sideOf.desc).map (fun d => d.parameters.length) = some 3 := by decide +kernel
theorem hVX8_go : yX8_go.cls = RX8 ∧ yX8_go.cls ≠ "java/lang/invoke/MethodHandle" ∧ yX8_go.cls ≠ "java/lang/invoke/VarHandle" ∧ (parseMethodDescriptor yX8_go.desc).map (fun d => d.parameters.length) = some 5 := by decide +kernel
theorem hVX8_goAs : yX8_goAs.cls = RX8 ∧ yX8_goAs.cls ≠ "java/lang/invoke/MethodHandle" ∧ yX8_goAs.cls ≠ "java/lang/invoke/VarHandle" ∧ (parseMethodDescriptor yX8_goAs.desc).map (fun d => d.parameters.length) = some 4 := by decide +kernel
theorem hSX6_turnSide : yX6_turnSide.cls ≠ "java/lang/invoke/MethodHandle" ∧ yX6_turnSide.cls ≠ "java/lang/invoke/VarHandle" ∧ (parseMethodDescriptor yX6_turnSide.desc).map (fun d => d.parameters.length) = some 3 := by decide +kernel
theorem hVX6_offerTwo : yX6_offerTwo.cls = RX6 ∧ yX6_offerTwo.cls ≠ "java/lang/invoke/MethodHandle" ∧ yX6_offerTwo.cls ≠ "java/lang/invoke/VarHandle" ∧ (parseMethodDescriptor yX6_offerTwo.desc).map (fun d => d.parameters.length) = some 2 := by decide +kernel
theorem hVX6_seekSecond : yX6_seekSecond.cls = RX6 ∧ yX6_seekSecond.cls ≠ "java/lang/invoke/MethodHandle" ∧ yX6_seekSecond.cls ≠ "java/lang/invoke/VarHandle" ∧ (parseMethodDescriptor yX6_seekSecond.desc).map (fun d => d.parameters.length) = some 6 := by decide +kernel
theorem hVX6_offerOne : yX6_offerOne.cls = RX6 ∧ yX6_offerOne.cls ≠ "java/lang/invoke/MethodHandle" ∧ yX6_offerOne.cls ≠ "java/lang/invoke/VarHandle" ∧ (parseMethodDescriptor yX6_offerOne.desc).map (fun d => d.parameters.length) = some 1 := by decide +kernel
theorem hVX6_seek : yX6_seek.cls = RX6 ∧ yX6_seek.cls ≠ "java/lang/invoke/MethodHandle" ∧ yX6_seek.cls ≠ "java/lang/invoke/VarHandle" ∧ (parseMethodDescriptor yX6_seek.desc).map (fun d => d.parameters.length) = some 5 := by decide +kernel
theorem hVX7_skipBlanks : yX7_skipBlanks.cls = RX7 ∧ yX7_skipBlanks.cls ≠ "java/lang/invoke/MethodHandle" ∧ yX7_skipBlanks.cls ≠ "java/lang/invoke/VarHandle" ∧ (parseMethodDescriptor yX7_skipBlanks.desc).map (fun d => d.parameters.length) = some 0 := by decide +kernel
theorem hVX7_signAt : yX7_signAt.cls = RX7 ∧ yX7_signAt.cls ≠ "java/lang/invoke/MethodHandle" ∧ yX7_signAt.cls ≠ "java/lang/invoke/VarHandle" ∧ (parseMethodDescriptor yX7_signAt.desc).map (fun d => d.parameters.length) = some 1 := by decide +kernel
theorem hVX7_weigh : yX7_weigh.cls = RX7 ∧ yX7_weigh.cls ≠ "java/lang/invoke/MethodHandle" ∧ yX7_weigh.cls ≠ "java/lang/invoke/VarHandle" ∧ (parseMethodDescriptor yX7_weigh.desc).map (fun d => d.parameters.length) = some 1 := by decide +kernel
theorem hVX7_nextToken : yX7_nextToken.cls = RX7 ∧ yX7_nextToken.cls ≠ "java/lang/invoke/MethodHandle" ∧ yX7_nextToken.cls ≠ "java/lang/invoke/VarHandle" ∧ (parseMethodDescriptor yX7_nextToken.desc).map (fun d => d.parameters.length) = some 0 := by decide +kernel
theorem hVX7_fail : yX7_fail.cls = RX7 ∧ yX7_fail.cls ≠ "java/lang/invoke/MethodHandle" ∧ yX7_fail.cls ≠ "java/lang/invoke/VarHandle" ∧ (parseMethodDescriptor yX7_fail.desc).map (fun d => d.parameters.length) = some 0 := by decide +kernel
theorem hVX7_readNumber : yX7_readNumber.cls = RX7 ∧ yX7_readNumber.cls ≠ "java/lang/invoke/MethodHandle" ∧ yX7_readNumber.cls ≠ "java/lang/invoke/VarHandle" ∧ (parseMethodDescriptor yX7_readNumber.desc).map (fun d => d.parameters.length) = some 2 := by decide +kernel
theorem hVX7_readKind : yX7_readKind.cls = RX7 ∧ yX7_readKind.cls ≠ "java/lang/invoke/MethodHandle" ∧ yX7_readKind.cls ≠ "java/lang/invoke/VarHandle" ∧ (parseMethodDescriptor yX7_readKind.desc).map (fun d => d.parameters.length) = some 1 := by decide +kernel
theorem hVX7_readClosing : yX7_readClosing.cls = RX7 ∧ yX7_readClosing.cls ≠ "java/lang/invoke/MethodHandle" ∧ yX7_readClosing.cls ≠ "java/lang/invoke/VarHandle" ∧ (parseMethodDescriptor yX7_readClosing.desc).map (fun d => d.parameters.length) = some 0 := by decide +kernel
theorem hVX7_readFigure : yX7_readFigure.cls = RX7 ∧ yX7_readFigure.cls ≠ "java/lang/invoke/MethodHandle" ∧ yX7_readFigure.cls ≠ "java/lang/invoke/VarHandle" ∧ (parseMethodDescriptor yX7_readFigure.desc).map (fun d => d.parameters.length) = some 0 := by decide +kernel
theorem hVX7_readGround : yX7_readGround.cls = RX7 ∧ yX7_readGround.cls ≠ "java/lang/invoke/MethodHandle" ∧ yX7_readGround.cls ≠ "java/lang/invoke/VarHandle" ∧ (parseMethodDescriptor yX7_readGround.desc).map (fun d => d.parameters.length) = some 1 := by decide +kernel
theorem hVX7_readKerb : yX7_readKerb.cls = RX7 ∧ yX7_readKerb.cls ≠ "java/lang/invoke/MethodHandle" ∧ yX7_readKerb.cls ≠ "java/lang/invoke/VarHandle" ∧ (parseMethodDescriptor yX7_readKerb.desc).map (fun d => d.parameters.length) = some 1 := by decide +kernel
theorem hVX7_readGrating : yX7_readGrating.cls = RX7 ∧ yX7_readGrating.cls ≠ "java/lang/invoke/MethodHandle" ∧ yX7_readGrating.cls ≠ "java/lang/invoke/VarHandle" ∧ (parseMethodDescriptor yX7_readGrating.desc).map (fun d => d.parameters.length) = some 1 := by decide +kernel
theorem hVX7_readItem : yX7_readItem.cls = RX7 ∧ yX7_readItem.cls ≠ "java/lang/invoke/MethodHandle" ∧ yX7_readItem.cls ≠ "java/lang/invoke/VarHandle" ∧ (parseMethodDescriptor yX7_readItem.desc).map (fun d => d.parameters.length) = some 2 := by decide +kernel
theorem hVX7_readText : yX7_readText.cls = RX7 ∧ yX7_readText.cls ≠ "java/lang/invoke/MethodHandle" ∧ yX7_readText.cls ≠ "java/lang/invoke/VarHandle" ∧ (parseMethodDescriptor yX7_readText.desc).map (fun d => d.parameters.length) = some 3 := by decide +kernel
theorem hVX11_type : yX11_type.cls = RX11 ∧ yX11_type.cls ≠ "java/lang/invoke/MethodHandle" ∧ yX11_type.cls ≠ "java/lang/invoke/VarHandle" ∧ (parseMethodDescriptor yX11_type.desc).map (fun d => d.parameters.length) = some 1 := by decide +kernel
theorem hVX11_clear : yX11_clear.cls = RX11 ∧ yX11_clear.cls ≠ "java/lang/invoke/MethodHandle" ∧ yX11_clear.cls ≠ "java/lang/invoke/VarHandle" ∧ (parseMethodDescriptor yX11_clear.desc).map (fun d => d.parameters.length) = some 0 := by decide +kernel
theorem hVX11_shutWays : yX11_shutWays.cls = RX11 ∧ yX11_shutWays.cls ≠ "java/lang/invoke/MethodHandle" ∧ yX11_shutWays.cls ≠ "java/lang/invoke/VarHandle" ∧ (parseMethodDescriptor yX11_shutWays.desc).map (fun d => d.parameters.length) = some 1 := by decide +kernel
theorem hVX11_cell : yX11_cell.cls = RX11 ∧ yX11_cell.cls ≠ "java/lang/invoke/MethodHandle" ∧ yX11_cell.cls ≠ "java/lang/invoke/VarHandle" ∧ (parseMethodDescriptor yX11_cell.desc).map (fun d => d.parameters.length) = some 3 := by decide +kernel
theorem hVX11_isKind : yX11_isKind.cls = RX11 ∧ yX11_isKind.cls ≠ "java/lang/invoke/MethodHandle" ∧ yX11_isKind.cls ≠ "java/lang/invoke/VarHandle" ∧ (parseMethodDescriptor yX11_isKind.desc).map (fun d => d.parameters.length) = some 1 := by decide +kernel
theorem hVX11_kind : yX11_kind.cls = RX11 ∧ yX11_kind.cls ≠ "java/lang/invoke/MethodHandle" ∧ yX11_kind.cls ≠ "java/lang/invoke/VarHandle" ∧ (parseMethodDescriptor yX11_kind.desc).map (fun d => d.parameters.length) = some 2 := by decide +kernel
theorem hVX11_sumOf : yX11_sumOf.cls = RX11 ∧ yX11_sumOf.cls ≠ "java/lang/invoke/MethodHandle" ∧ yX11_sumOf.cls ≠ "java/lang/invoke/VarHandle" ∧ (parseMethodDescriptor yX11_sumOf.desc).map (fun d => d.parameters.length) = some 1 := by decide +kernel
theorem hVX11_endCode : yX11_endCode.cls = RX11 ∧ yX11_endCode.cls ≠ "java/lang/invoke/MethodHandle" ∧ yX11_endCode.cls ≠ "java/lang/invoke/VarHandle" ∧ (parseMethodDescriptor yX11_endCode.desc).map (fun d => d.parameters.length) = some 0 := by decide +kernel
theorem hVX11_lets : yX11_lets.cls = RX11 ∧ yX11_lets.cls ≠ "java/lang/invoke/MethodHandle" ∧ yX11_lets.cls ≠ "java/lang/invoke/VarHandle" ∧ (parseMethodDescriptor yX11_lets.desc).map (fun d => d.parameters.length) = some 3 := by decide +kernel
theorem hSX11_isWay : yX11_isWay.cls ≠ "java/lang/invoke/MethodHandle" ∧ yX11_isWay.cls ≠ "java/lang/invoke/VarHandle" ∧ (parseMethodDescriptor yX11_isWay.desc).map (fun d => d.parameters.length) = some 1 := by decide +kernel
theorem hVX11_sets : yX11_sets.cls = RX11 ∧ yX11_sets.cls ≠ "java/lang/invoke/MethodHandle" ∧ yX11_sets.cls ≠ "java/lang/invoke/VarHandle" ∧ (parseMethodDescriptor yX11_sets.desc).map (fun d => d.parameters.length) = some 3 := by decide +kernel
theorem hVX11_takes : yX11_takes.cls = RX11 ∧ yX11_takes.cls ≠ "java/lang/invoke/MethodHandle" ∧ yX11_takes.cls ≠ "java/lang/invoke/VarHandle" ∧ (parseMethodDescriptor yX11_takes.desc).map (fun d => d.parameters.length) = some 3 := by decide +kernel
theorem hSX11_isHeight : yX11_isHeight.cls ≠ "java/lang/invoke/MethodHandle" ∧ yX11_isHeight.cls ≠ "java/lang/invoke/VarHandle" ∧ (parseMethodDescriptor yX11_isHeight.desc).map (fun d => d.parameters.length) = some 1 := by decide +kernel
theorem hVX11_cobble : yX11_cobble.cls = RX11 ∧ yX11_cobble.cls ≠ "java/lang/invoke/MethodHandle" ∧ yX11_cobble.cls ≠ "java/lang/invoke/VarHandle" ∧ (parseMethodDescriptor yX11_cobble.desc).map (fun d => d.parameters.length) = some 3 := by decide +kernel
theorem hVX11_sweep : yX11_sweep.cls = RX11 ∧ yX11_sweep.cls ≠ "java/lang/invoke/MethodHandle" ∧ yX11_sweep.cls ≠ "java/lang/invoke/VarHandle" ∧ (parseMethodDescriptor yX11_sweep.desc).map (fun d => d.parameters.length) = some 2 := by decide +kernel
theorem hVX11_undo : yX11_undo.cls = RX11 ∧ yX11_undo.cls ≠ "java/lang/invoke/MethodHandle" ∧ yX11_undo.cls ≠ "java/lang/invoke/VarHandle" ∧ (parseMethodDescriptor yX11_undo.desc).map (fun d => d.parameters.length) = some 0 := by decide +kernel
theorem hVX11_endsAt : yX11_endsAt.cls = RX11 ∧ yX11_endsAt.cls ≠ "java/lang/invoke/MethodHandle" ∧ yX11_endsAt.cls ≠ "java/lang/invoke/VarHandle" ∧ (parseMethodDescriptor yX11_endsAt.desc).map (fun d => d.parameters.length) = some 3 := by decide +kernel
theorem hVX11_allSeenIsSo : yX11_allSeenIsSo.cls = RX11 ∧ yX11_allSeenIsSo.cls ≠ "java/lang/invoke/MethodHandle" ∧ yX11_allSeenIsSo.cls ≠ "java/lang/invoke/VarHandle" ∧ (parseMethodDescriptor yX11_allSeenIsSo.desc).map (fun d => d.parameters.length) = some 0 := by decide +kernel
theorem hVX11_now : yX11_now.cls = RX11 ∧ yX11_now.cls ≠ "java/lang/invoke/MethodHandle" ∧ yX11_now.cls ≠ "java/lang/invoke/VarHandle" ∧ (parseMethodDescriptor yX11_now.desc).map (fun d => d.parameters.length) = some 1 := by decide +kernel
theorem hVX11_end : yX11_end.cls = RX11 ∧ yX11_end.cls ≠ "java/lang/invoke/MethodHandle" ∧ yX11_end.cls ≠ "java/lang/invoke/VarHandle" ∧ (parseMethodDescriptor yX11_end.desc).map (fun d => d.parameters.length) = some 4 := by decide +kernel
theorem hVX11_doorBits : yX11_doorBits.cls = RX11 ∧ yX11_doorBits.cls ≠ "java/lang/invoke/MethodHandle" ∧ yX11_doorBits.cls ≠ "java/lang/invoke/VarHandle" ∧ (parseMethodDescriptor yX11_doorBits.desc).map (fun d => d.parameters.length) = some 2 := by decide +kernel
theorem hVX11_doors : yX11_doors.cls = RX11 ∧ yX11_doors.cls ≠ "java/lang/invoke/MethodHandle" ∧ yX11_doors.cls ≠ "java/lang/invoke/VarHandle" ∧ (parseMethodDescriptor yX11_doors.desc).map (fun d => d.parameters.length) = some 3 := by decide +kernel
theorem hVX11_sideCode : yX11_sideCode.cls = RX11 ∧ yX11_sideCode.cls ≠ "java/lang/invoke/MethodHandle" ∧ yX11_sideCode.cls ≠ "java/lang/invoke/VarHandle" ∧ (parseMethodDescriptor yX11_sideCode.desc).map (fun d => d.parameters.length) = some 1 := by decide +kernel
theorem hVX11_planks : yX11_planks.cls = RX11 ∧ yX11_planks.cls ≠ "java/lang/invoke/MethodHandle" ∧ yX11_planks.cls ≠ "java/lang/invoke/VarHandle" ∧ (parseMethodDescriptor yX11_planks.desc).map (fun d => d.parameters.length) = some 4 := by decide +kernel
theorem hSJ6_bitCount_0f7a4 : yJ6_bitCount_0f7a4.cls ≠ "java/lang/invoke/MethodHandle" ∧ yJ6_bitCount_0f7a4.cls ≠ "java/lang/invoke/VarHandle" ∧ (parseMethodDescriptor yJ6_bitCount_0f7a4.desc).map (fun d => d.parameters.length) = some 1 := by decide +kernel
theorem hVX11_doorsWithout : yX11_doorsWithout.cls = RX11 ∧ yX11_doorsWithout.cls ≠ "java/lang/invoke/MethodHandle" ∧ yX11_doorsWithout.cls ≠ "java/lang/invoke/VarHandle" ∧ (parseMethodDescriptor yX11_doorsWithout.desc).map (fun d => d.parameters.length) = some 3 := by decide +kernel
theorem hVX11_paved : yX11_paved.cls = RX11 ∧ yX11_paved.cls ≠ "java/lang/invoke/MethodHandle" ∧ yX11_paved.cls ≠ "java/lang/invoke/VarHandle" ∧ (parseMethodDescriptor yX11_paved.desc).map (fun d => d.parameters.length) = some 4 := by decide +kernel
theorem hVX11_rain : yX11_rain.cls = RX11 ∧ yX11_rain.cls ≠ "java/lang/invoke/MethodHandle" ∧ yX11_rain.cls ≠ "java/lang/invoke/VarHandle" ∧ (parseMethodDescriptor yX11_rain.desc).map (fun d => d.parameters.length) = some 1 := by decide +kernel
theorem hSX11_sharedDivisor : yX11_sharedDivisor.cls ≠ "java/lang/invoke/MethodHandle" ∧ yX11_sharedDivisor.cls ≠ "java/lang/invoke/VarHandle" ∧ (parseMethodDescriptor yX11_sharedDivisor.desc).map (fun d => d.parameters.length) = some 2 := by decide +kernel
theorem hVX11_feet : yX11_feet.cls = RX11 ∧ yX11_feet.cls ≠ "java/lang/invoke/MethodHandle" ∧ yX11_feet.cls ≠ "java/lang/invoke/VarHandle" ∧ (parseMethodDescriptor yX11_feet.desc).map (fun d => d.parameters.length) = some 4 := by decide +kernel
theorem hVX11_endOf : yX11_endOf.cls = RX11 ∧ yX11_endOf.cls ≠ "java/lang/invoke/MethodHandle" ∧ yX11_endOf.cls ≠ "java/lang/invoke/VarHandle" ∧ (parseMethodDescriptor yX11_endOf.desc).map (fun d => d.parameters.length) = some 2 := by decide +kernel
theorem hVX11_apartBits : yX11_apartBits.cls = RX11 ∧ yX11_apartBits.cls ≠ "java/lang/invoke/MethodHandle" ∧ yX11_apartBits.cls ≠ "java/lang/invoke/VarHandle" ∧ (parseMethodDescriptor yX11_apartBits.desc).map (fun d => d.parameters.length) = some 2 := by decide +kernel
theorem hVX11_apart : yX11_apart.cls = RX11 ∧ yX11_apart.cls ≠ "java/lang/invoke/MethodHandle" ∧ yX11_apart.cls ≠ "java/lang/invoke/VarHandle" ∧ (parseMethodDescriptor yX11_apart.desc).map (fun d => d.parameters.length) = some 2 := by decide +kernel
theorem hVX11_partnerBelow : yX11_partnerBelow.cls = RX11 ∧ yX11_partnerBelow.cls ≠ "java/lang/invoke/MethodHandle" ∧ yX11_partnerBelow.cls ≠ "java/lang/invoke/VarHandle" ∧ (parseMethodDescriptor yX11_partnerBelow.desc).map (fun d => d.parameters.length) = some 3 := by decide +kernel
theorem hVX11_fewestTelling : yX11_fewestTelling.cls = RX11 ∧ yX11_fewestTelling.cls ≠ "java/lang/invoke/MethodHandle" ∧ yX11_fewestTelling.cls ≠ "java/lang/invoke/VarHandle" ∧ (parseMethodDescriptor yX11_fewestTelling.desc).map (fun d => d.parameters.length) = some 1 := by decide +kernel
theorem hVX11_noteTold : yX11_noteTold.cls = RX11 ∧ yX11_noteTold.cls ≠ "java/lang/invoke/MethodHandle" ∧ yX11_noteTold.cls ≠ "java/lang/invoke/VarHandle" ∧ (parseMethodDescriptor yX11_noteTold.desc).map (fun d => d.parameters.length) = some 2 := by decide +kernel
theorem hVX11_rolls : yX11_rolls.cls = RX11 ∧ yX11_rolls.cls ≠ "java/lang/invoke/MethodHandle" ∧ yX11_rolls.cls ≠ "java/lang/invoke/VarHandle" ∧ (parseMethodDescriptor yX11_rolls.desc).map (fun d => d.parameters.length) = some 0 := by decide +kernel
theorem hVX11_saw : yX11_saw.cls = RX11 ∧ yX11_saw.cls ≠ "java/lang/invoke/MethodHandle" ∧ yX11_saw.cls ≠ "java/lang/invoke/VarHandle" ∧ (parseMethodDescriptor yX11_saw.desc).map (fun d => d.parameters.length) = some 3 := by decide +kernel
theorem hVX11_forget : yX11_forget.cls = RX11 ∧ yX11_forget.cls ≠ "java/lang/invoke/MethodHandle" ∧ yX11_forget.cls ≠ "java/lang/invoke/VarHandle" ∧ (parseMethodDescriptor yX11_forget.desc).map (fun d => d.parameters.length) = some 0 := by decide +kernel
theorem hVX11_isSoWithCobble : yX11_isSoWithCobble.cls = RX11 ∧ yX11_isSoWithCobble.cls ≠ "java/lang/invoke/MethodHandle" ∧ yX11_isSoWithCobble.cls ≠ "java/lang/invoke/VarHandle" ∧ (parseMethodDescriptor yX11_isSoWithCobble.desc).map (fun d => d.parameters.length) = some 2 := by decide +kernel
theorem hVX11_moved : yX11_moved.cls = RX11 ∧ yX11_moved.cls ≠ "java/lang/invoke/MethodHandle" ∧ yX11_moved.cls ≠ "java/lang/invoke/VarHandle" ∧ (parseMethodDescriptor yX11_moved.desc).map (fun d => d.parameters.length) = some 1 := by decide +kernel
theorem hSX11_isImage : yX11_isImage.cls ≠ "java/lang/invoke/MethodHandle" ∧ yX11_isImage.cls ≠ "java/lang/invoke/VarHandle" ∧ (parseMethodDescriptor yX11_isImage.desc).map (fun d => d.parameters.length) = some 1 := by decide +kernel
theorem hVX11_keep : yX11_keep.cls = RX11 ∧ yX11_keep.cls ≠ "java/lang/invoke/MethodHandle" ∧ yX11_keep.cls ≠ "java/lang/invoke/VarHandle" ∧ (parseMethodDescriptor yX11_keep.desc).map (fun d => d.parameters.length) = some 1 := by decide +kernel
theorem hVX11_back : yX11_back.cls = RX11 ∧ yX11_back.cls ≠ "java/lang/invoke/MethodHandle" ∧ yX11_back.cls ≠ "java/lang/invoke/VarHandle" ∧ (parseMethodDescriptor yX11_back.desc).map (fun d => d.parameters.length) = some 1 := by decide +kernel
theorem hVX11_count : yX11_count.cls = RX11 ∧ yX11_count.cls ≠ "java/lang/invoke/MethodHandle" ∧ yX11_count.cls ≠ "java/lang/invoke/VarHandle" ∧ (parseMethodDescriptor yX11_count.desc).map (fun d => d.parameters.length) = some 1 := by decide +kernel
theorem hVX11_trace : yX11_trace.cls = RX11 ∧ yX11_trace.cls ≠ "java/lang/invoke/MethodHandle" ∧ yX11_trace.cls ≠ "java/lang/invoke/VarHandle" ∧ (parseMethodDescriptor yX11_trace.desc).map (fun d => d.parameters.length) = some 0 := by decide +kernel
-- J7_fill_53178 (0, 0)
set_option maxRecDepth 100000 in
set_option maxHeartbeats 4000000 in
theorem wJ7_fill_5 {l : Launch} {D : va_G} {cI cZ cC cG cB : ClassId} {ad : Nat → Nat} {a : Program × Env × State × MethodId} {b : Array Value × List Frame × Method × Code × (State → Prop) × Nat} {A : Nat → Prop} {i : Nat} {ni : Nat} (K : KS (GS l 0 0 D cI cZ cC cG cB ad a b A) cJ7_fill_53178 RJ7 wsJ7_fill_53178 none) (hn : x_n (GS l 0 0 D cI cZ cC cG cB ad a b A) = 4) {res : (Int32 × St)} (hR : HRv (GS l 0 0 D cI cZ cC cG cB ad a b A) cJ7_fill_53178 res) (hil : i < 75) (him : ∀ f, mkS cI cZ cC cG cB ad i f = .inl (cI, ni, .inl f)) : ∀ (n : Nat) (v1 : Int32) (v2 : Int32) (v3 : Int32) (σ : St), mJ7_fill_5 i ni n v1 v2 v3 σ = some res → Wk (GS l 0 0 D cI cZ cC cG cB ad a b A) 5 [(0, .ref (ad i)), (1, .int v1), (2, .int v2), (3, .int v3)] [] σ := by
  intro n
  induction n with
  | zero => intro v1 v2 v3 σ h; cases h
  | succ n ih =>
    intro v1 v2 v3 σ h
    unfold mJ7_fill_5 at h
    refine k_iload_n K dJ7_fill_53178_5 2 rfl ?_
    refine k_iload_n K dJ7_fill_53178_6 3 rfl ?_
    refine k_icmp_ge (tgt := 20) K dJ7_fill_53178_7 (by decide) (fun q => ?_) (fun q => ?_)
    · have h := if_f q h
      exact ret_v hR h dJ7_fill_53178_20
    · have h := if_t q h
      refine k_aload_n K dJ7_fill_53178_10 0 rfl ?_
      refine k_iload_n K dJ7_fill_53178_11 2 rfl ?_
      refine k_iload_n K dJ7_fill_53178_12 1 rfl ?_
      obtain ⟨g2, h⟩ := gd_some h
      have h := lt_some h
      refine k_ist K i 0 hil him rfl g2 dJ7_fill_53178_13 ?_
      have h := lt_some h
      refine k_iinc (lv' := [(2, _), (0, _), (1, _), (3, _)]) K dJ7_fill_53178_14 2 rfl (v := _ + 1) (by rfl) (by rw [hn]; decide) rfl ?_
      refine k_goto (tgt := 5) K dJ7_fill_53178_17 (by decide) ?_
      exact k_sub [1, 2, 0, 3] rfl (ih _ _ _ _ h)
set_option maxRecDepth 100000 in
set_option maxHeartbeats 4000000 in
theorem ctJ7_fill {l : Launch} {D : va_G} {cI cZ cC cG cB : ClassId} {ad : Nat → Nat} {i : Nat} {ni : Nat} {v1 : Int32} {σ : St} {res : (Int32 × St)} (hil : i < 75) (him : ∀ f, mkS cI cZ cC cG cB ad i f = .inl (cI, ni, .inl f)) (h : mJ7_fill i ni v1 σ = some res) : Cv l yJ7_fill_53178 wsJ7_fill_53178 0 0 D vwCl (tysS cI cZ cC cG cB) nwS (mkS cI cZ cC cG cB ad) ad 75 [.ref (ad i), .int v1] σ res := by
  refine c_void (cc := cJ7_fill_53178) (maxL := 4) (by decide) rfl (Nat.le_of_ble_eq_true rfl) fun a b hn K hR => ?_
  unfold mJ7_fill at h
  have K : KS (GS l 0 0 D cI cZ cC cG cB ad a b (w_A ad 75)) cJ7_fill_53178 RJ7 wsJ7_fill_53178 none := K
  have hn : x_n (GS l 0 0 D cI cZ cC cG cB ad a b (w_A ad 75)) = 4 := hn
  refine k_sub [0, 1] rfl ?_
  refine k_iconst (x := 0) K dJ7_fill_53178_0 (by decide) ?_
  refine k_istore_n (lv' := [(2, _), (0, _), (1, _)]) K dJ7_fill_53178_1 (by rw [hn]; decide) rfl ?_
  refine k_aload_n K dJ7_fill_53178_2 1 rfl ?_
  refine k_len (x := (Int32.ofNat ni)) K i 0 hil (him _) rfl rfl dJ7_fill_53178_3 ?_
  have h := lt_some h
  refine k_istore_n (lv' := [(3, _), (2, _), (0, _), (1, _)]) K dJ7_fill_53178_4 (by rw [hn]; decide) rfl ?_
  exact k_sub [2, 3, 1, 0] rfl (wJ7_fill_5 K hn hR hil him FU _ _ _ _ h)
-- X2_wipe (1, 23)
theorem iX2_wipe_X2 : ∀ w ∈ wsX20, w ∈ wsX2_wipe := fun _ h => List.mem_cons_of_mem _ (List.mem_append_right _ h)
theorem fX2_wipe_15 : Cond.fieldLink RX2 15 "SlopeCoins$City" "kerbs" "[I" ∈ wsX2_wipe := by decide +kernel
theorem fX2_wipe_18 : Cond.fieldLink RX2 18 "SlopeCoins$City" "grating" "[I" ∈ wsX2_wipe := by decide +kernel
theorem fX2_wipe_33 : Cond.fieldLink RX2 33 "SlopeCoins$City" "wide" "I" ∈ wsX2_wipe := by decide +kernel
theorem fX2_wipe_37 : Cond.fieldLink RX2 37 "SlopeCoins$City" "high" "I" ∈ wsX2_wipe := by decide +kernel
theorem fX2_wipe_40 : Cond.fieldLink RX2 40 "SlopeCoins$City" "cells" "I" ∈ wsX2_wipe := by decide +kernel
theorem fX2_wipe_43 : Cond.fieldLink RX2 43 "SlopeCoins$City" "gratings" "I" ∈ wsX2_wipe := by decide +kernel
theorem fX2_wipe_46 : Cond.fieldLink RX2 46 "SlopeCoins$City" "kinds" "I" ∈ wsX2_wipe := by decide +kernel
set_option maxRecDepth 100000 in
set_option maxHeartbeats 4000000 in
theorem ctX2_wipe {l : Launch} {D : va_G} {cI cZ cC cG cB : ClassId} {ad : Nat → Nat} {u : Nat} {σ : St} {res : (Int32 × St)} (hu : isC u) (h : mX2_wipe u σ = some res) : Cv l yX2_wipe wsX2_wipe 1 23 D vwCl (tysS cI cZ cC cG cB) nwS (mkS cI cZ cC cG cB ad) ad 75 [.ref (ad u)] σ res := by
  refine c_void (cc := cX2_wipe) (maxL := 1) (by decide) rfl (Nat.le_of_ble_eq_true rfl) fun a b hn K hR => ?_
  unfold mX2_wipe at h
  have K : KS (GS l 1 23 D cI cZ cC cG cB ad a b (w_A ad 75)) cX2_wipe RX2 wsX2_wipe none := K
  have hn : x_n (GS l 1 23 D cI cZ cC cG cB ad a b (w_A ad 75)) = 1 := hn
  refine k_sub [0] rfl ?_
  refine k_aload_n K dX2_wipe_0 0 rfl ?_
  refine k_iconst (x := 0) K dX2_wipe_1 (by decide) ?_
  have h := lt_some h
  refine k_putI K u 2 0 tyX2 tyX2_ok nmX2 iX2_wipe_X2 (lS_C hu) ((mS_C cI cZ cC cG cB ad hu) _) rfl (by decide) fX2_wipe_33 rfl (by decide +kernel) (Nat.le_of_ble_eq_true rfl) (pS_C_0 cI cZ cC cG cB ad hu _ _) dX2_wipe_2 ?_
  refine k_aload_n K dX2_wipe_5 0 rfl ?_
  refine k_iconst (x := 0) K dX2_wipe_6 (by decide) ?_
  have h := lt_some h
  refine k_putI K u 2 1 tyX2 tyX2_ok nmX2 iX2_wipe_X2 (lS_C hu) ((mS_C cI cZ cC cG cB ad hu) _) rfl (by decide) fX2_wipe_37 rfl (by decide +kernel) (Nat.le_of_ble_eq_true rfl) (pS_C_1 cI cZ cC cG cB ad hu _ _) dX2_wipe_7 ?_
  refine k_aload_n K dX2_wipe_10 0 rfl ?_
  refine k_iconst (x := 0) K dX2_wipe_11 (by decide) ?_
  have h := lt_some h
  refine k_putI K u 2 2 tyX2 tyX2_ok nmX2 iX2_wipe_X2 (lS_C hu) ((mS_C cI cZ cC cG cB ad hu) _) rfl (by decide) fX2_wipe_40 rfl (by decide +kernel) (Nat.le_of_ble_eq_true rfl) (pS_C_2 cI cZ cC cG cB ad hu _ _) dX2_wipe_12 ?_
  refine k_aload_n K dX2_wipe_15 0 rfl ?_
  refine k_iconst (x := 0) K dX2_wipe_16 (by decide) ?_
  have h := lt_some h
  refine k_putI K u 2 3 tyX2 tyX2_ok nmX2 iX2_wipe_X2 (lS_C hu) ((mS_C cI cZ cC cG cB ad hu) _) rfl (by decide) fX2_wipe_43 rfl (by decide +kernel) (Nat.le_of_ble_eq_true rfl) (pS_C_3 cI cZ cC cG cB ad hu _ _) dX2_wipe_17 ?_
  refine k_aload_n K dX2_wipe_20 0 rfl ?_
  refine k_iconst (x := 0) K dX2_wipe_21 (by decide) ?_
  have h := lt_some h
  refine k_putI K u 2 4 tyX2 tyX2_ok nmX2 iX2_wipe_X2 (lS_C hu) ((mS_C cI cZ cC cG cB ad hu) _) rfl (by decide) fX2_wipe_46 rfl (by decide +kernel) (Nat.le_of_ble_eq_true rfl) (pS_C_4 cI cZ cC cG cB ad hu _ _) dX2_wipe_22 ?_
  refine k_aload_n K dX2_wipe_25 0 rfl ?_
  refine k_get K u 2 6 iX2_wipe_X2 (lS_C hu) ((mS_C cI cZ cC cG cB ad hu) _) rfl (by decide) fX2_wipe_15 rfl dX2_wipe_26 ?_
  refine k_iconst (x := 0) K dX2_wipe_29 (by decide) ?_
  obtain ⟨⟨r6, s7⟩, e8, h⟩ := bd_some h
  dsimp only at h
  refine k_callSv K (ctJ7_fill (lS_C2 hu) (mS_C2 cI cZ cC cG cB ad hu) e8) (va_cwS 2 K.ts gX2_wipe_J7_fill_53178 rfl rfl rfl hSJ7_fill_53178 ⟨Nat.le_of_ble_eq_true rfl, Nat.le_of_ble_eq_true rfl⟩) rfl rfl (Nat.le_of_ble_eq_true rfl) dX2_wipe_30 ?_
  refine k_aload_n K dX2_wipe_33 0 rfl ?_
  refine k_get K u 2 7 iX2_wipe_X2 (lS_C hu) ((mS_C cI cZ cC cG cB ad hu) _) rfl (by decide) fX2_wipe_18 rfl dX2_wipe_34 ?_
  refine k_iconst (x := 0) K dX2_wipe_37 (by decide) ?_
  obtain ⟨⟨r9, s10⟩, e11, h⟩ := bd_some h
  dsimp only at h
  refine k_callSv K (ctJ7_fill (lS_C3 hu) (mS_C3 cI cZ cC cG cB ad hu) e11) (va_cwS 2 K.ts gX2_wipe_J7_fill_53178 rfl rfl rfl hSJ7_fill_53178 ⟨Nat.le_of_ble_eq_true rfl, Nat.le_of_ble_eq_true rfl⟩) rfl rfl (Nat.le_of_ble_eq_true rfl) dX2_wipe_38 ?_
  exact ret_v hR h dX2_wipe_41
-- X2_cellAt (0, 0)
theorem iX2_cellAt_X2 : ∀ w ∈ wsX20, w ∈ wsX2_cellAt := fun _ h => List.mem_cons_of_mem _ (List.mem_append_right _ h)
theorem fX2_cellAt_33 : Cond.fieldLink RX2 33 "SlopeCoins$City" "wide" "I" ∈ wsX2_cellAt := by decide +kernel
theorem fX2_cellAt_37 : Cond.fieldLink RX2 37 "SlopeCoins$City" "high" "I" ∈ wsX2_cellAt := by decide +kernel
set_option maxRecDepth 100000 in
set_option maxHeartbeats 4000000 in
theorem ctX2_cellAt {l : Launch} {D : va_G} {cI cZ cC cG cB : ClassId} {ad : Nat → Nat} {u : Nat} {v1 : Int32} {v2 : Int32} {σ : St} {res : (Int32 × St)} (hu : isC u) (h : mX2_cellAt u v1 v2 σ = some res) : Ci l yX2_cellAt wsX2_cellAt 0 0 D vwCl (tysS cI cZ cC cG cB) nwS (mkS cI cZ cC cG cB ad) ad 75 [.ref (ad u), .int v1, .int v2] σ res := by
  refine c_int (cc := cX2_cellAt) (maxL := 3) (by decide) rfl (Nat.le_of_ble_eq_true rfl) fun a b hn K hR => ?_
  unfold mX2_cellAt at h
  have K : KS (GS l 0 0 D cI cZ cC cG cB ad a b (w_A ad 75)) cX2_cellAt RX2 wsX2_cellAt (some .int) := K
  have hn : x_n (GS l 0 0 D cI cZ cC cG cB ad a b (w_A ad 75)) = 3 := hn
  refine k_sub [0, 1, 2] rfl ?_
  refine k_iload_n K dX2_cellAt_0 1 rfl ?_
  refine k_if_lt (tgt := 35) K dX2_cellAt_1 (by decide) (fun q => ?_) (fun q => ?_)
  · have h := if_t q h
    refine k_iconst (x := (-1)) K dX2_cellAt_35 (by decide) ?_
    exact ret_i hR h dX2_cellAt_36 trivial
  · have h := if_f q h
    refine k_iload_n K dX2_cellAt_4 1 rfl ?_
    refine k_aload_n K dX2_cellAt_5 0 rfl ?_
    refine k_get K u 2 0 iX2_cellAt_X2 (lS_C hu) ((mS_C cI cZ cC cG cB ad hu) _) rfl (by decide) fX2_cellAt_33 rfl dX2_cellAt_6 ?_
    refine k_icmp_ge (tgt := 35) K dX2_cellAt_9 (by decide) (fun q => ?_) (fun q => ?_)
    · have h := if_f q h
      refine k_iconst (x := (-1)) K dX2_cellAt_35 (by decide) ?_
      exact ret_i hR h dX2_cellAt_36 trivial
    · have h := if_t q h
      refine k_iload_n K dX2_cellAt_12 2 rfl ?_
      refine k_if_lt (tgt := 35) K dX2_cellAt_13 (by decide) (fun q => ?_) (fun q => ?_)
      · have h := if_t q h
        refine k_iconst (x := (-1)) K dX2_cellAt_35 (by decide) ?_
        exact ret_i hR h dX2_cellAt_36 trivial
      · have h := if_f q h
        refine k_iload_n K dX2_cellAt_16 2 rfl ?_
        refine k_aload_n K dX2_cellAt_17 0 rfl ?_
        refine k_get K u 2 1 iX2_cellAt_X2 (lS_C hu) ((mS_C cI cZ cC cG cB ad hu) _) rfl (by decide) fX2_cellAt_37 rfl dX2_cellAt_18 ?_
        refine k_icmp_ge (tgt := 35) K dX2_cellAt_21 (by decide) (fun q => ?_) (fun q => ?_)
        · have h := if_f q h
          refine k_iconst (x := (-1)) K dX2_cellAt_35 (by decide) ?_
          exact ret_i hR h dX2_cellAt_36 trivial
        · have h := if_t q h
          refine k_aload_n K dX2_cellAt_24 0 rfl ?_
          refine k_get K u 2 0 iX2_cellAt_X2 (lS_C hu) ((mS_C cI cZ cC cG cB ad hu) _) rfl (by decide) fX2_cellAt_33 rfl dX2_cellAt_25 ?_
          refine k_iload_n K dX2_cellAt_28 2 rfl ?_
          refine k_imul K dX2_cellAt_29 ?_
          refine k_iload_n K dX2_cellAt_30 1 rfl ?_
          refine k_iadd K dX2_cellAt_31 ?_
          refine k_goto (tgt := 36) K dX2_cellAt_32 (by decide) ?_
          exact ret_i hR h dX2_cellAt_36 trivial
-- X2_noteBeside (0, 0)
theorem iX2_noteBeside_X2 : ∀ w ∈ wsX20, w ∈ wsX2_noteBeside := fun _ h => List.mem_cons_of_mem _ (List.mem_append_right _ h)
theorem fX2_noteBeside_15 : Cond.fieldLink RX2 15 "SlopeCoins$City" "kerbs" "[I" ∈ wsX2_noteBeside := by decide +kernel
theorem fX2_noteBeside_21 : Cond.fieldLink RX2 21 "SlopeCoins$City" "beside" "[I" ∈ wsX2_noteBeside := by decide +kernel
set_option maxRecDepth 100000 in
set_option maxHeartbeats 4000000 in
theorem ctX2_noteBeside {l : Launch} {D : va_G} {cI cZ cC cG cB : ClassId} {ad : Nat → Nat} {u : Nat} {v1 : Int32} {v2 : Int32} {v3 : Int32} {σ : St} {res : (Int32 × St)} (hu : isC u) (h : mX2_noteBeside u v1 v2 v3 σ = some res) : Cv l yX2_noteBeside wsX2_noteBeside 0 0 D vwCl (tysS cI cZ cC cG cB) nwS (mkS cI cZ cC cG cB ad) ad 75 [.ref (ad u), .int v1, .int v2, .int v3] σ res := by
  refine c_void (cc := cX2_noteBeside) (maxL := 4) (by decide) rfl (Nat.le_of_ble_eq_true rfl) fun a b hn K hR => ?_
  unfold mX2_noteBeside at h
  have K : KS (GS l 0 0 D cI cZ cC cG cB ad a b (w_A ad 75)) cX2_noteBeside RX2 wsX2_noteBeside none := K
  have hn : x_n (GS l 0 0 D cI cZ cC cG cB ad a b (w_A ad 75)) = 4 := hn
  refine k_sub [0, 1, 2, 3] rfl ?_
  refine k_aload_n K dX2_noteBeside_0 0 rfl ?_
  refine k_get K u 2 8 iX2_noteBeside_X2 (lS_C hu) ((mS_C cI cZ cC cG cB ad hu) _) rfl (by decide) fX2_noteBeside_21 rfl dX2_noteBeside_1 ?_
  refine k_iconst (x := 4) K dX2_noteBeside_4 (by decide) ?_
  refine k_iload_n K dX2_noteBeside_5 1 rfl ?_
  refine k_imul K dX2_noteBeside_6 ?_
  refine k_iload_n K dX2_noteBeside_7 2 rfl ?_
  refine k_iadd K dX2_noteBeside_8 ?_
  refine k_iload_n K dX2_noteBeside_9 3 rfl ?_
  obtain ⟨g1, h⟩ := gd_some h
  have h := lt_some h
  refine k_ist K (u + 4) 0 (lS_C4 hu) (mS_C4 cI cZ cC cG cB ad hu) rfl g1 dX2_noteBeside_10 ?_
  refine k_iload_n K dX2_noteBeside_11 3 rfl ?_
  refine k_iconst (x := (-1)) K dX2_noteBeside_12 (by decide) ?_
  refine k_icmp_ne (tgt := 28) K dX2_noteBeside_13 (by decide) (fun q => ?_) (fun q => ?_)
  · have h := if_f q h
    exact ret_v hR h dX2_noteBeside_28
  · have h := if_t q h
    refine k_aload_n K dX2_noteBeside_16 0 rfl ?_
    refine k_get K u 2 6 iX2_noteBeside_X2 (lS_C hu) ((mS_C cI cZ cC cG cB ad hu) _) rfl (by decide) fX2_noteBeside_15 rfl dX2_noteBeside_17 ?_
    refine k_iload_n K dX2_noteBeside_20 1 rfl ?_
    refine k_dup2 K dX2_noteBeside_21 rfl rfl ?_
    obtain ⟨g3, h⟩ := gd_some h
    refine k_ild K (u + 2) 0 (lS_C2 hu) ((mS_C2 cI cZ cC cG cB ad hu) _) rfl g3 dX2_noteBeside_22 ?_
    refine k_iconst (x := 1) K dX2_noteBeside_23 (by decide) ?_
    refine k_iload_n K dX2_noteBeside_24 2 rfl ?_
    refine k_ishl K dX2_noteBeside_25 ?_
    refine k_ior K dX2_noteBeside_26 ?_
    obtain ⟨g4, h⟩ := gd_some h
    have h := lt_some h
    refine k_ist K (u + 2) 0 (lS_C2 hu) (mS_C2 cI cZ cC cG cB ad hu) rfl g4 dX2_noteBeside_27 ?_
    exact ret_v hR h dX2_noteBeside_28
-- X2_stretch (1, 23)
theorem iX2_stretch_X2 : ∀ w ∈ wsX20, w ∈ wsX2_stretch := fun _ h => List.mem_cons_of_mem _ (List.mem_append_right _ h)
theorem fX2_stretch_33 : Cond.fieldLink RX2 33 "SlopeCoins$City" "wide" "I" ∈ wsX2_stretch := by decide +kernel
theorem fX2_stretch_37 : Cond.fieldLink RX2 37 "SlopeCoins$City" "high" "I" ∈ wsX2_stretch := by decide +kernel
theorem fX2_stretch_40 : Cond.fieldLink RX2 40 "SlopeCoins$City" "cells" "I" ∈ wsX2_stretch := by decide +kernel
set_option maxRecDepth 100000 in
set_option maxHeartbeats 4000000 in
theorem wX2_stretch_118 {l : Launch} {D : va_G} {cI cZ cC cG cB : ClassId} {ad : Nat → Nat} {a : Program × Env × State × MethodId} {b : Array Value × List Frame × Method × Code × (State → Prop) × Nat} {A : Nat → Prop} {u : Nat} {rc : Int32 → St → Option (Int32 × St)} (K : KS (GS l 1 23 D cI cZ cC cG cB ad a b A) cX2_stretch RX2 wsX2_stretch none) (hn : x_n (GS l 1 23 D cI cZ cC cG cB ad a b A) = 6) {res : (Int32 × St)} (hR : HRv (GS l 1 23 D cI cZ cC cG cB ad a b A) cX2_stretch res) (hu : isC u) (hrc : ∀ (v3 : Int32) (σ : St), rc v3 σ = some res → Wk (GS l 1 23 D cI cZ cC cG cB ad a b A) 19 [(0, .ref (ad u)), (3, .int v3)] [] σ) : ∀ (v3 : Int32), ∀ (σ : St), mX2_stretch_118 u rc v3 σ = some res → Wk (GS l 1 23 D cI cZ cC cG cB ad a b A) 118 [(0, .ref (ad u)), (3, .int v3)] [] σ := by
  intro v3 σ h
  unfold mX2_stretch_118 at h
  have h := lt_some h
  refine k_iinc (lv' := [(3, _), (0, _)]) K dX2_stretch_118 1 rfl (v := _ + 1) (by rfl) (by rw [hn]; decide) rfl ?_
  refine k_goto (tgt := 19) K dX2_stretch_121 (by decide) ?_
  exact k_sub [1, 0] rfl (hrc _ _ h)
set_option maxRecDepth 100000 in
set_option maxHeartbeats 4000000 in
theorem wX2_stretch_30 {l : Launch} {D : va_G} {cI cZ cC cG cB : ClassId} {ad : Nat → Nat} {a : Program × Env × State × MethodId} {b : Array Value × List Frame × Method × Code × (State → Prop) × Nat} {A : Nat → Prop} {u : Nat} {k118 : Int32 → St → Option (Int32 × St)} (K : KS (GS l 1 23 D cI cZ cC cG cB ad a b A) cX2_stretch RX2 wsX2_stretch none) (hn : x_n (GS l 1 23 D cI cZ cC cG cB ad a b A) = 6) {res : (Int32 × St)} (hR : HRv (GS l 1 23 D cI cZ cC cG cB ad a b A) cX2_stretch res) (hu : isC u) (hk118 : ∀ (v3 : Int32) (σ : St), k118 v3 σ = some res → Wk (GS l 1 23 D cI cZ cC cG cB ad a b A) 118 [(0, .ref (ad u)), (3, .int v3)] [] σ) : ∀ (n : Nat) (v3 : Int32) (v4 : Int32) (σ : St), mX2_stretch_30 u k118 n v3 v4 σ = some res → Wk (GS l 1 23 D cI cZ cC cG cB ad a b A) 30 [(0, .ref (ad u)), (3, .int v3), (4, .int v4)] [] σ := by
  intro n
  induction n with
  | zero => intro v3 v4 σ h; cases h
  | succ n ih =>
    intro v3 v4 σ h
    unfold mX2_stretch_30 at h
    refine k_iload K dX2_stretch_30 2 rfl ?_
    refine k_aload_n K dX2_stretch_32 0 rfl ?_
    refine k_get K u 2 0 iX2_stretch_X2 (lS_C hu) ((mS_C cI cZ cC cG cB ad hu) _) rfl (by decide) fX2_stretch_33 rfl dX2_stretch_33 ?_
    refine k_icmp_ge (tgt := 118) K dX2_stretch_36 (by decide) (fun q => ?_) (fun q => ?_)
    · have h := if_f q h
      exact k_sub [0, 1] rfl (hk118 _ _ h)
    · have h := if_t q h
      refine k_aload_n K dX2_stretch_39 0 rfl ?_
      refine k_iload K dX2_stretch_40 2 rfl ?_
      refine k_iload_n K dX2_stretch_42 1 rfl ?_
      obtain ⟨⟨r5, s6⟩, e7, h⟩ := bd_some h
      dsimp only at h
      refine k_callVi K u 2 (lS_C hu) ((mS_C cI cZ cC cG cB ad hu) _) rfl (ctX2_cellAt hu e7) (cwV 2 K.ts gX2_stretch_X2_cellAt rfl rfl rfl hVX2_cellAt ⟨Nat.le_of_ble_eq_true rfl, Nat.le_of_ble_eq_true rfl⟩) rfl rfl (Nat.le_of_ble_eq_true rfl) dX2_stretch_43 ?_
      refine k_istore (lv' := [(5, _), (0, _), (3, _), (4, _)]) K dX2_stretch_46 (by rw [hn]; decide) rfl ?_
      refine k_aload_n K dX2_stretch_48 1 rfl ?_
      refine k_iload K dX2_stretch_49 0 rfl ?_
      refine k_iconst (x := 0) K dX2_stretch_51 (by decide) ?_
      refine k_aload_n K dX2_stretch_52 1 rfl ?_
      refine k_iload K dX2_stretch_53 3 rfl ?_
      refine k_iload_n K dX2_stretch_55 2 rfl ?_
      refine k_iconst (x := 1) K dX2_stretch_56 (by decide) ?_
      refine k_isub K dX2_stretch_57 ?_
      obtain ⟨⟨r8, s9⟩, e10, h⟩ := bd_some h
      dsimp only at h
      refine k_callVi K u 2 (lS_C hu) ((mS_C cI cZ cC cG cB ad hu) _) rfl (ctX2_cellAt hu e10) (cwV 2 K.ts gX2_stretch_X2_cellAt rfl rfl rfl hVX2_cellAt ⟨Nat.le_of_ble_eq_true rfl, Nat.le_of_ble_eq_true rfl⟩) rfl rfl (Nat.le_of_ble_eq_true rfl) dX2_stretch_58 ?_
      obtain ⟨⟨r11, s12⟩, e13, h⟩ := bd_some h
      dsimp only at h
      refine k_callVv K u 2 (lS_C hu) ((mS_C cI cZ cC cG cB ad hu) _) rfl (ctX2_noteBeside hu e13) (cwV 3 K.ts gX2_stretch_X2_noteBeside rfl rfl rfl hVX2_noteBeside ⟨Nat.le_of_ble_eq_true rfl, Nat.le_of_ble_eq_true rfl⟩) rfl rfl (Nat.le_of_ble_eq_true rfl) dX2_stretch_61 ?_
      refine k_aload_n K dX2_stretch_64 1 rfl ?_
      refine k_iload K dX2_stretch_65 0 rfl ?_
      refine k_iconst (x := 1) K dX2_stretch_67 (by decide) ?_
      refine k_aload_n K dX2_stretch_68 1 rfl ?_
      refine k_iload K dX2_stretch_69 3 rfl ?_
      refine k_iconst (x := 1) K dX2_stretch_71 (by decide) ?_
      refine k_iadd K dX2_stretch_72 ?_
      refine k_iload_n K dX2_stretch_73 2 rfl ?_
      obtain ⟨⟨r14, s15⟩, e16, h⟩ := bd_some h
      dsimp only at h
      refine k_callVi K u 2 (lS_C hu) ((mS_C cI cZ cC cG cB ad hu) _) rfl (ctX2_cellAt hu e16) (cwV 2 K.ts gX2_stretch_X2_cellAt rfl rfl rfl hVX2_cellAt ⟨Nat.le_of_ble_eq_true rfl, Nat.le_of_ble_eq_true rfl⟩) rfl rfl (Nat.le_of_ble_eq_true rfl) dX2_stretch_74 ?_
      obtain ⟨⟨r17, s18⟩, e19, h⟩ := bd_some h
      dsimp only at h
      refine k_callVv K u 2 (lS_C hu) ((mS_C cI cZ cC cG cB ad hu) _) rfl (ctX2_noteBeside hu e19) (cwV 3 K.ts gX2_stretch_X2_noteBeside rfl rfl rfl hVX2_noteBeside ⟨Nat.le_of_ble_eq_true rfl, Nat.le_of_ble_eq_true rfl⟩) rfl rfl (Nat.le_of_ble_eq_true rfl) dX2_stretch_77 ?_
      refine k_aload_n K dX2_stretch_80 1 rfl ?_
      refine k_iload K dX2_stretch_81 0 rfl ?_
      refine k_iconst (x := 2) K dX2_stretch_83 (by decide) ?_
      refine k_aload_n K dX2_stretch_84 1 rfl ?_
      refine k_iload K dX2_stretch_85 3 rfl ?_
      refine k_iload_n K dX2_stretch_87 2 rfl ?_
      refine k_iconst (x := 1) K dX2_stretch_88 (by decide) ?_
      refine k_iadd K dX2_stretch_89 ?_
      obtain ⟨⟨r20, s21⟩, e22, h⟩ := bd_some h
      dsimp only at h
      refine k_callVi K u 2 (lS_C hu) ((mS_C cI cZ cC cG cB ad hu) _) rfl (ctX2_cellAt hu e22) (cwV 2 K.ts gX2_stretch_X2_cellAt rfl rfl rfl hVX2_cellAt ⟨Nat.le_of_ble_eq_true rfl, Nat.le_of_ble_eq_true rfl⟩) rfl rfl (Nat.le_of_ble_eq_true rfl) dX2_stretch_90 ?_
      obtain ⟨⟨r23, s24⟩, e25, h⟩ := bd_some h
      dsimp only at h
      refine k_callVv K u 2 (lS_C hu) ((mS_C cI cZ cC cG cB ad hu) _) rfl (ctX2_noteBeside hu e25) (cwV 3 K.ts gX2_stretch_X2_noteBeside rfl rfl rfl hVX2_noteBeside ⟨Nat.le_of_ble_eq_true rfl, Nat.le_of_ble_eq_true rfl⟩) rfl rfl (Nat.le_of_ble_eq_true rfl) dX2_stretch_93 ?_
      refine k_aload_n K dX2_stretch_96 1 rfl ?_
      refine k_iload K dX2_stretch_97 0 rfl ?_
      refine k_iconst (x := 3) K dX2_stretch_99 (by decide) ?_
      refine k_aload_n K dX2_stretch_100 1 rfl ?_
      refine k_iload K dX2_stretch_101 3 rfl ?_
      refine k_iconst (x := 1) K dX2_stretch_103 (by decide) ?_
      refine k_isub K dX2_stretch_104 ?_
      refine k_iload_n K dX2_stretch_105 2 rfl ?_
      obtain ⟨⟨r26, s27⟩, e28, h⟩ := bd_some h
      dsimp only at h
      refine k_callVi K u 2 (lS_C hu) ((mS_C cI cZ cC cG cB ad hu) _) rfl (ctX2_cellAt hu e28) (cwV 2 K.ts gX2_stretch_X2_cellAt rfl rfl rfl hVX2_cellAt ⟨Nat.le_of_ble_eq_true rfl, Nat.le_of_ble_eq_true rfl⟩) rfl rfl (Nat.le_of_ble_eq_true rfl) dX2_stretch_106 ?_
      obtain ⟨⟨r29, s30⟩, e31, h⟩ := bd_some h
      dsimp only at h
      refine k_callVv K u 2 (lS_C hu) ((mS_C cI cZ cC cG cB ad hu) _) rfl (ctX2_noteBeside hu e31) (cwV 3 K.ts gX2_stretch_X2_noteBeside rfl rfl rfl hVX2_noteBeside ⟨Nat.le_of_ble_eq_true rfl, Nat.le_of_ble_eq_true rfl⟩) rfl rfl (Nat.le_of_ble_eq_true rfl) dX2_stretch_109 ?_
      have h := lt_some h
      refine k_iinc (lv' := [(4, _), (5, _), (0, _), (3, _)]) K dX2_stretch_112 3 rfl (v := _ + 1) (by rfl) (by rw [hn]; decide) rfl ?_
      refine k_goto (tgt := 30) K dX2_stretch_115 (by decide) ?_
      exact k_sub [2, 3, 0] rfl (ih _ _ _ h)
set_option maxRecDepth 100000 in
set_option maxHeartbeats 4000000 in
theorem wX2_stretch_19 {l : Launch} {D : va_G} {cI cZ cC cG cB : ClassId} {ad : Nat → Nat} {a : Program × Env × State × MethodId} {b : Array Value × List Frame × Method × Code × (State → Prop) × Nat} {A : Nat → Prop} {u : Nat} (K : KS (GS l 1 23 D cI cZ cC cG cB ad a b A) cX2_stretch RX2 wsX2_stretch none) (hn : x_n (GS l 1 23 D cI cZ cC cG cB ad a b A) = 6) {res : (Int32 × St)} (hR : HRv (GS l 1 23 D cI cZ cC cG cB ad a b A) cX2_stretch res) (hu : isC u) : ∀ (n : Nat) (v3 : Int32) (σ : St), mX2_stretch_19 u n v3 σ = some res → Wk (GS l 1 23 D cI cZ cC cG cB ad a b A) 19 [(0, .ref (ad u)), (3, .int v3)] [] σ := by
  intro n
  induction n with
  | zero => intro v3 σ h; cases h
  | succ n ih =>
    intro v3 σ h
    unfold mX2_stretch_19 at h
    refine k_iload_n K dX2_stretch_19 1 rfl ?_
    refine k_aload_n K dX2_stretch_20 0 rfl ?_
    refine k_get K u 2 1 iX2_stretch_X2 (lS_C hu) ((mS_C cI cZ cC cG cB ad hu) _) rfl (by decide) fX2_stretch_37 rfl dX2_stretch_21 ?_
    refine k_icmp_ge (tgt := 124) K dX2_stretch_24 (by decide) (fun q => ?_) (fun q => ?_)
    · have h := if_f q h
      exact ret_v hR h dX2_stretch_124
    · have h := if_t q h
      refine k_iconst (x := 0) K dX2_stretch_27 (by decide) ?_
      refine k_istore (lv' := [(4, _), (0, _), (3, _)]) K dX2_stretch_28 (by rw [hn]; decide) rfl ?_
      exact k_sub [1, 2, 0] rfl (wX2_stretch_30 K hn hR hu (fun v3 σ h => wX2_stretch_118 K hn hR hu ih v3 σ h) FU _ _ _ h)
set_option maxRecDepth 100000 in
set_option maxHeartbeats 4000000 in
theorem ctX2_stretch {l : Launch} {D : va_G} {cI cZ cC cG cB : ClassId} {ad : Nat → Nat} {u : Nat} {v1 : Int32} {v2 : Int32} {σ : St} {res : (Int32 × St)} (hu : isC u) (h : mX2_stretch u v1 v2 σ = some res) : Cv l yX2_stretch wsX2_stretch 1 23 D vwCl (tysS cI cZ cC cG cB) nwS (mkS cI cZ cC cG cB ad) ad 75 [.ref (ad u), .int v1, .int v2] σ res := by
  refine c_void (cc := cX2_stretch) (maxL := 6) (by decide) rfl (Nat.le_of_ble_eq_true rfl) fun a b hn K hR => ?_
  unfold mX2_stretch at h
  have K : KS (GS l 1 23 D cI cZ cC cG cB ad a b (w_A ad 75)) cX2_stretch RX2 wsX2_stretch none := K
  have hn : x_n (GS l 1 23 D cI cZ cC cG cB ad a b (w_A ad 75)) = 6 := hn
  refine k_sub [0, 1, 2] rfl ?_
  refine k_aload_n K dX2_stretch_0 0 rfl ?_
  refine k_iload_n K dX2_stretch_1 1 rfl ?_
  have h := lt_some h
  refine k_putI K u 2 0 tyX2 tyX2_ok nmX2 iX2_stretch_X2 (lS_C hu) ((mS_C cI cZ cC cG cB ad hu) _) rfl (by decide) fX2_stretch_33 rfl (by decide +kernel) (Nat.le_of_ble_eq_true rfl) (pS_C_0 cI cZ cC cG cB ad hu _ _) dX2_stretch_2 ?_
  refine k_aload_n K dX2_stretch_5 0 rfl ?_
  refine k_iload_n K dX2_stretch_6 2 rfl ?_
  have h := lt_some h
  refine k_putI K u 2 1 tyX2 tyX2_ok nmX2 iX2_stretch_X2 (lS_C hu) ((mS_C cI cZ cC cG cB ad hu) _) rfl (by decide) fX2_stretch_37 rfl (by decide +kernel) (Nat.le_of_ble_eq_true rfl) (pS_C_1 cI cZ cC cG cB ad hu _ _) dX2_stretch_7 ?_
  refine k_aload_n K dX2_stretch_10 0 rfl ?_
  refine k_iload_n K dX2_stretch_11 1 rfl ?_
  refine k_iload_n K dX2_stretch_12 2 rfl ?_
  refine k_imul K dX2_stretch_13 ?_
  have h := lt_some h
  refine k_putI K u 2 2 tyX2 tyX2_ok nmX2 iX2_stretch_X2 (lS_C hu) ((mS_C cI cZ cC cG cB ad hu) _) rfl (by decide) fX2_stretch_40 rfl (by decide +kernel) (Nat.le_of_ble_eq_true rfl) (pS_C_2 cI cZ cC cG cB ad hu _ _) dX2_stretch_14 ?_
  refine k_iconst (x := 0) K dX2_stretch_17 (by decide) ?_
  refine k_istore_n (lv' := [(3, _), (0, _), (1, _), (2, _)]) K dX2_stretch_18 (by rw [hn]; decide) rfl ?_
  exact k_sub [1, 0] rfl (wX2_stretch_19 K hn hR hu FU _ _ h)
-- X2_besideOf (0, 0)
theorem iX2_besideOf_X2 : ∀ w ∈ wsX20, w ∈ wsX2_besideOf := fun _ h => List.mem_cons_of_mem _ (List.mem_append_right _ h)
theorem fX2_besideOf_21 : Cond.fieldLink RX2 21 "SlopeCoins$City" "beside" "[I" ∈ wsX2_besideOf := by decide +kernel
set_option maxRecDepth 100000 in
set_option maxHeartbeats 4000000 in
theorem ctX2_besideOf {l : Launch} {D : va_G} {cI cZ cC cG cB : ClassId} {ad : Nat → Nat} {u : Nat} {v1 : Int32} {v2 : Int32} {σ : St} {res : (Int32 × St)} (hu : isC u) (h : mX2_besideOf u v1 v2 σ = some res) : Ci l yX2_besideOf wsX2_besideOf 0 0 D vwCl (tysS cI cZ cC cG cB) nwS (mkS cI cZ cC cG cB ad) ad 75 [.ref (ad u), .int v1, .int v2] σ res := by
  refine c_int (cc := cX2_besideOf) (maxL := 3) (by decide) rfl (Nat.le_of_ble_eq_true rfl) fun a b hn K hR => ?_
  unfold mX2_besideOf at h
  have K : KS (GS l 0 0 D cI cZ cC cG cB ad a b (w_A ad 75)) cX2_besideOf RX2 wsX2_besideOf (some .int) := K
  have hn : x_n (GS l 0 0 D cI cZ cC cG cB ad a b (w_A ad 75)) = 3 := hn
  refine k_sub [0, 1, 2] rfl ?_
  refine k_aload_n K dX2_besideOf_0 0 rfl ?_
  refine k_get K u 2 8 iX2_besideOf_X2 (lS_C hu) ((mS_C cI cZ cC cG cB ad hu) _) rfl (by decide) fX2_besideOf_21 rfl dX2_besideOf_1 ?_
  refine k_iconst (x := 4) K dX2_besideOf_4 (by decide) ?_
  refine k_iload_n K dX2_besideOf_5 1 rfl ?_
  refine k_imul K dX2_besideOf_6 ?_
  refine k_iload_n K dX2_besideOf_7 2 rfl ?_
  refine k_iadd K dX2_besideOf_8 ?_
  obtain ⟨g1, h⟩ := gd_some h
  refine k_ild K (u + 4) 0 (lS_C4 hu) ((mS_C4 cI cZ cC cG cB ad hu) _) rfl g1 dX2_besideOf_9 ?_
  exact ret_i hR h dX2_besideOf_10 trivial
-- X2_facing (0, 0)
set_option maxRecDepth 100000 in
set_option maxHeartbeats 4000000 in
theorem ctX2_facing {l : Launch} {D : va_G} {cI cZ cC cG cB : ClassId} {ad : Nat → Nat} {v0 : Int32} {σ : St} {res : (Int32 × St)} (h : mX2_facing v0 σ = some res) : Ci l yX2_facing wsX2_facing 0 0 D vwCl (tysS cI cZ cC cG cB) nwS (mkS cI cZ cC cG cB ad) ad 75 [.int v0] σ res := by
  refine c_int (cc := cX2_facing) (maxL := 1) (by decide) rfl (Nat.le_of_ble_eq_true rfl) fun a b hn K hR => ?_
  unfold mX2_facing at h
  have K : KS (GS l 0 0 D cI cZ cC cG cB ad a b (w_A ad 75)) cX2_facing RX2 wsX2_facing (some .int) := K
  have hn : x_n (GS l 0 0 D cI cZ cC cG cB ad a b (w_A ad 75)) = 1 := hn
  refine k_sub [0] rfl ?_
  refine k_iload_n K dX2_facing_0 0 rfl ?_
  refine k_iconst (x := 2) K dX2_facing_1 (by decide) ?_
  refine k_iadd K dX2_facing_2 ?_
  refine k_iconst (x := 4) K dX2_facing_3 (by decide) ?_
  refine k_irem K dX2_facing_4 (by decide) ?_
  exact ret_i hR h dX2_facing_5 trivial
-- X2_addKerb (1, 22)
theorem iX2_addKerb_X2 : ∀ w ∈ wsX20, w ∈ wsX2_addKerb := fun _ h => List.mem_cons_of_mem _ (List.mem_append_right _ h)
theorem fX2_addKerb_15 : Cond.fieldLink RX2 15 "SlopeCoins$City" "kerbs" "[I" ∈ wsX2_addKerb := by decide +kernel
set_option maxRecDepth 100000 in
set_option maxHeartbeats 4000000 in
theorem ctX2_addKerb {l : Launch} {D : va_G} {cI cZ cC cG cB : ClassId} {ad : Nat → Nat} {u : Nat} {v1 : Int32} {v2 : Int32} {σ : St} {res : (Int32 × St)} (hu : isC u) (h : mX2_addKerb u v1 v2 σ = some res) : Cv l yX2_addKerb wsX2_addKerb 1 22 D vwCl (tysS cI cZ cC cG cB) nwS (mkS cI cZ cC cG cB ad) ad 75 [.ref (ad u), .int v1, .int v2] σ res := by
  refine c_void (cc := cX2_addKerb) (maxL := 4) (by decide) rfl (Nat.le_of_ble_eq_true rfl) fun a b hn K hR => ?_
  unfold mX2_addKerb at h
  have K : KS (GS l 1 22 D cI cZ cC cG cB ad a b (w_A ad 75)) cX2_addKerb RX2 wsX2_addKerb none := K
  have hn : x_n (GS l 1 22 D cI cZ cC cG cB ad a b (w_A ad 75)) = 4 := hn
  refine k_sub [0, 1, 2] rfl ?_
  refine k_aload_n K dX2_addKerb_0 0 rfl ?_
  refine k_get K u 2 6 iX2_addKerb_X2 (lS_C hu) ((mS_C cI cZ cC cG cB ad hu) _) rfl (by decide) fX2_addKerb_15 rfl dX2_addKerb_1 ?_
  refine k_iload_n K dX2_addKerb_4 1 rfl ?_
  refine k_dup2 K dX2_addKerb_5 rfl rfl ?_
  obtain ⟨g1, h⟩ := gd_some h
  refine k_ild K (u + 2) 0 (lS_C2 hu) ((mS_C2 cI cZ cC cG cB ad hu) _) rfl g1 dX2_addKerb_6 ?_
  refine k_iconst (x := 1) K dX2_addKerb_7 (by decide) ?_
  refine k_iload_n K dX2_addKerb_8 2 rfl ?_
  refine k_ishl K dX2_addKerb_9 ?_
  refine k_ior K dX2_addKerb_10 ?_
  obtain ⟨g2, h⟩ := gd_some h
  have h := lt_some h
  refine k_ist K (u + 2) 0 (lS_C2 hu) (mS_C2 cI cZ cC cG cB ad hu) rfl g2 dX2_addKerb_11 ?_
  refine k_aload_n K dX2_addKerb_12 0 rfl ?_
  refine k_iload_n K dX2_addKerb_13 1 rfl ?_
  refine k_iload_n K dX2_addKerb_14 2 rfl ?_
  obtain ⟨⟨r4, s5⟩, e6, h⟩ := bd_some h
  dsimp only at h
  refine k_callVi K u 2 (lS_C hu) ((mS_C cI cZ cC cG cB ad hu) _) rfl (ctX2_besideOf hu e6) (cwV 2 K.ts gX2_addKerb_X2_besideOf rfl rfl rfl hVX2_besideOf ⟨Nat.le_of_ble_eq_true rfl, Nat.le_of_ble_eq_true rfl⟩) rfl rfl (Nat.le_of_ble_eq_true rfl) dX2_addKerb_15 ?_
  refine k_istore_n (lv' := [(3, _), (0, _), (1, _), (2, _)]) K dX2_addKerb_18 (by rw [hn]; decide) rfl ?_
  refine k_iload_n K dX2_addKerb_19 0 rfl ?_
  refine k_iconst (x := (-1)) K dX2_addKerb_20 (by decide) ?_
  refine k_icmp_eq (tgt := 39) K dX2_addKerb_21 (by decide) (fun q => ?_) (fun q => ?_)
  · have h := if_t q h
    exact ret_v hR h dX2_addKerb_39
  · have h := if_f q h
    refine k_aload_n K dX2_addKerb_24 1 rfl ?_
    refine k_get K u 2 6 iX2_addKerb_X2 (lS_C hu) ((mS_C cI cZ cC cG cB ad hu) _) rfl (by decide) fX2_addKerb_15 rfl dX2_addKerb_25 ?_
    refine k_iload_n K dX2_addKerb_28 0 rfl ?_
    refine k_dup2 K dX2_addKerb_29 rfl rfl ?_
    obtain ⟨g7, h⟩ := gd_some h
    refine k_ild K (u + 2) 0 (lS_C2 hu) ((mS_C2 cI cZ cC cG cB ad hu) _) rfl g7 dX2_addKerb_30 ?_
    refine k_iconst (x := 1) K dX2_addKerb_31 (by decide) ?_
    refine k_iload_n K dX2_addKerb_32 3 rfl ?_
    obtain ⟨⟨r8, s9⟩, e10, h⟩ := bd_some h
    dsimp only at h
    refine k_callSi K (ctX2_facing e10) (va_cwS 1 K.ts gX2_addKerb_X2_facing rfl rfl rfl hSX2_facing ⟨Nat.le_of_ble_eq_true rfl, Nat.le_of_ble_eq_true rfl⟩) rfl rfl (Nat.le_of_ble_eq_true rfl) dX2_addKerb_33 ?_
    refine k_ishl K dX2_addKerb_36 ?_
    refine k_ior K dX2_addKerb_37 ?_
    obtain ⟨g11, h⟩ := gd_some h
    have h := lt_some h
    refine k_ist K (u + 2) 0 (lS_C2 hu) (mS_C2 cI cZ cC cG cB ad hu) rfl g11 dX2_addKerb_38 ?_
    exact ret_v hR h dX2_addKerb_39
-- X2_addKind (0, 0)
theorem iX2_addKind_X2 : ∀ w ∈ wsX20, w ∈ wsX2_addKind := fun _ h => List.mem_cons_of_mem _ (List.mem_append_right _ h)
theorem fX2_addKind_24 : Cond.fieldLink RX2 24 "SlopeCoins$City" "size" "[I" ∈ wsX2_addKind := by decide +kernel
theorem fX2_addKind_27 : Cond.fieldLink RX2 27 "SlopeCoins$City" "worth" "[I" ∈ wsX2_addKind := by decide +kernel
theorem fX2_addKind_30 : Cond.fieldLink RX2 30 "SlopeCoins$City" "forged" "[I" ∈ wsX2_addKind := by decide +kernel
theorem fX2_addKind_46 : Cond.fieldLink RX2 46 "SlopeCoins$City" "kinds" "I" ∈ wsX2_addKind := by decide +kernel
set_option maxRecDepth 100000 in
set_option maxHeartbeats 4000000 in
theorem ctX2_addKind {l : Launch} {D : va_G} {cI cZ cC cG cB : ClassId} {ad : Nat → Nat} {u : Nat} {v1 : Int32} {v2 : Int32} {v3 : Int32} {σ : St} {res : (Int32 × St)} (hu : isC u) (h : mX2_addKind u v1 v2 v3 σ = some res) : Cv l yX2_addKind wsX2_addKind 0 0 D vwCl (tysS cI cZ cC cG cB) nwS (mkS cI cZ cC cG cB ad) ad 75 [.ref (ad u), .int v1, .int v2, .int v3] σ res := by
  refine c_void (cc := cX2_addKind) (maxL := 4) (by decide) rfl (Nat.le_of_ble_eq_true rfl) fun a b hn K hR => ?_
  unfold mX2_addKind at h
  have K : KS (GS l 0 0 D cI cZ cC cG cB ad a b (w_A ad 75)) cX2_addKind RX2 wsX2_addKind none := K
  have hn : x_n (GS l 0 0 D cI cZ cC cG cB ad a b (w_A ad 75)) = 4 := hn
  refine k_sub [0, 1, 2, 3] rfl ?_
  refine k_aload_n K dX2_addKind_0 0 rfl ?_
  refine k_get K u 2 4 iX2_addKind_X2 (lS_C hu) ((mS_C cI cZ cC cG cB ad hu) _) rfl (by decide) fX2_addKind_46 rfl dX2_addKind_1 ?_
  refine k_iconst (x := 5) K dX2_addKind_4 (by decide) ?_
  refine k_icmp_ge (tgt := 48) K dX2_addKind_5 (by decide) (fun q => ?_) (fun q => ?_)
  · have h := if_f q h
    exact ret_v hR h dX2_addKind_48
  · have h := if_t q h
    refine k_aload_n K dX2_addKind_8 0 rfl ?_
    refine k_get K u 2 9 iX2_addKind_X2 (lS_C hu) ((mS_C cI cZ cC cG cB ad hu) _) rfl (by decide) fX2_addKind_24 rfl dX2_addKind_9 ?_
    refine k_aload_n K dX2_addKind_12 0 rfl ?_
    refine k_get K u 2 4 iX2_addKind_X2 (lS_C hu) ((mS_C cI cZ cC cG cB ad hu) _) rfl (by decide) fX2_addKind_46 rfl dX2_addKind_13 ?_
    refine k_iload_n K dX2_addKind_16 1 rfl ?_
    obtain ⟨g1, h⟩ := gd_some h
    have h := lt_some h
    refine k_ist K (u + 5) 0 (lS_C5 hu) (mS_C5 cI cZ cC cG cB ad hu) rfl g1 dX2_addKind_17 ?_
    refine k_aload_n K dX2_addKind_18 0 rfl ?_
    refine k_get K u 2 10 iX2_addKind_X2 (lS_C hu) ((mS_C cI cZ cC cG cB ad hu) _) rfl (by decide) fX2_addKind_27 rfl dX2_addKind_19 ?_
    refine k_aload_n K dX2_addKind_22 0 rfl ?_
    refine k_get K u 2 4 iX2_addKind_X2 (lS_C hu) ((mS_C cI cZ cC cG cB ad hu) _) rfl (by decide) fX2_addKind_46 rfl dX2_addKind_23 ?_
    refine k_iload_n K dX2_addKind_26 2 rfl ?_
    obtain ⟨g3, h⟩ := gd_some h
    have h := lt_some h
    refine k_ist K (u + 6) 0 (lS_C6 hu) (mS_C6 cI cZ cC cG cB ad hu) rfl g3 dX2_addKind_27 ?_
    refine k_aload_n K dX2_addKind_28 0 rfl ?_
    refine k_get K u 2 11 iX2_addKind_X2 (lS_C hu) ((mS_C cI cZ cC cG cB ad hu) _) rfl (by decide) fX2_addKind_30 rfl dX2_addKind_29 ?_
    refine k_aload_n K dX2_addKind_32 0 rfl ?_
    refine k_get K u 2 4 iX2_addKind_X2 (lS_C hu) ((mS_C cI cZ cC cG cB ad hu) _) rfl (by decide) fX2_addKind_46 rfl dX2_addKind_33 ?_
    refine k_iload_n K dX2_addKind_36 3 rfl ?_
    obtain ⟨g5, h⟩ := gd_some h
    have h := lt_some h
    refine k_ist K (u + 7) 0 (lS_C7 hu) (mS_C7 cI cZ cC cG cB ad hu) rfl g5 dX2_addKind_37 ?_
    refine k_aload_n K dX2_addKind_38 0 rfl ?_
    refine k_dup K dX2_addKind_39 rfl ?_
    refine k_get K u 2 4 iX2_addKind_X2 (lS_C hu) ((mS_C cI cZ cC cG cB ad hu) _) rfl (by decide) fX2_addKind_46 rfl dX2_addKind_40 ?_
    refine k_iconst (x := 1) K dX2_addKind_43 (by decide) ?_
    refine k_iadd K dX2_addKind_44 ?_
    have h := lt_some h
    refine k_putI K u 2 4 tyX2 tyX2_ok nmX2 iX2_addKind_X2 (lS_C hu) ((mS_C cI cZ cC cG cB ad hu) _) rfl (by decide) fX2_addKind_46 rfl (by decide +kernel) (Nat.le_of_ble_eq_true rfl) (pS_C_4 cI cZ cC cG cB ad hu _ _) dX2_addKind_45 ?_
    exact ret_v hR h dX2_addKind_48
-- X2_cellOfPair (1, 22)
set_option maxRecDepth 100000 in
set_option maxHeartbeats 4000000 in
theorem ctX2_cellOfPair {l : Launch} {D : va_G} {cI cZ cC cG cB : ClassId} {ad : Nat → Nat} {u : Nat} {v1 : Int32} {σ : St} {res : (Int32 × St)} (hu : isC u) (h : mX2_cellOfPair u v1 σ = some res) : Ci l yX2_cellOfPair wsX2_cellOfPair 1 22 D vwCl (tysS cI cZ cC cG cB) nwS (mkS cI cZ cC cG cB ad) ad 75 [.ref (ad u), .int v1] σ res := by
  refine c_int (cc := cX2_cellOfPair) (maxL := 2) (by decide) rfl (Nat.le_of_ble_eq_true rfl) fun a b hn K hR => ?_
  unfold mX2_cellOfPair at h
  have K : KS (GS l 1 22 D cI cZ cC cG cB ad a b (w_A ad 75)) cX2_cellOfPair RX2 wsX2_cellOfPair (some .int) := K
  have hn : x_n (GS l 1 22 D cI cZ cC cG cB ad a b (w_A ad 75)) = 2 := hn
  refine k_sub [0, 1] rfl ?_
  refine k_iload_n K dX2_cellOfPair_0 1 rfl ?_
  refine k_if_ge (tgt := 8) K dX2_cellOfPair_1 (by decide) (fun q => ?_) (fun q => ?_)
  · have h := if_f q h
    refine k_aload_n K dX2_cellOfPair_8 0 rfl ?_
    refine k_iload_n K dX2_cellOfPair_9 1 rfl ?_
    refine k_bipush (x := 10) K dX2_cellOfPair_10 (by decide) ?_
    refine k_idiv K dX2_cellOfPair_12 (by decide) ?_
    refine k_iload_n K dX2_cellOfPair_13 1 rfl ?_
    refine k_bipush (x := 10) K dX2_cellOfPair_14 (by decide) ?_
    refine k_irem K dX2_cellOfPair_16 (by decide) ?_
    obtain ⟨⟨r1, s2⟩, e3, h⟩ := bd_some h
    dsimp only at h
    refine k_callVi K u 2 (lS_C hu) ((mS_C cI cZ cC cG cB ad hu) _) rfl (ctX2_cellAt hu e3) (cwV 2 K.ts gX2_cellOfPair_X2_cellAt rfl rfl rfl hVX2_cellAt ⟨Nat.le_of_ble_eq_true rfl, Nat.le_of_ble_eq_true rfl⟩) rfl rfl (Nat.le_of_ble_eq_true rfl) dX2_cellOfPair_17 ?_
    exact ret_i hR h dX2_cellOfPair_20 trivial
  · have h := if_t q h
    refine k_iconst (x := (-1)) K dX2_cellOfPair_4 (by decide) ?_
    refine k_goto (tgt := 20) K dX2_cellOfPair_5 (by decide) ?_
    exact ret_i hR h dX2_cellOfPair_20 trivial
-- X2_pairOf (0, 0)
theorem iX2_pairOf_X2 : ∀ w ∈ wsX20, w ∈ wsX2_pairOf := fun _ h => List.mem_cons_of_mem _ (List.mem_append_right _ h)
theorem fX2_pairOf_33 : Cond.fieldLink RX2 33 "SlopeCoins$City" "wide" "I" ∈ wsX2_pairOf := by decide +kernel
set_option maxRecDepth 100000 in
set_option maxHeartbeats 4000000 in
theorem ctX2_pairOf {l : Launch} {D : va_G} {cI cZ cC cG cB : ClassId} {ad : Nat → Nat} {u : Nat} {v1 : Int32} {σ : St} {res : (Int32 × St)} (hu : isC u) (h : mX2_pairOf u v1 σ = some res) : Ci l yX2_pairOf wsX2_pairOf 0 0 D vwCl (tysS cI cZ cC cG cB) nwS (mkS cI cZ cC cG cB ad) ad 75 [.ref (ad u), .int v1] σ res := by
  refine c_int (cc := cX2_pairOf) (maxL := 2) (by decide) rfl (Nat.le_of_ble_eq_true rfl) fun a b hn K hR => ?_
  unfold mX2_pairOf at h
  have K : KS (GS l 0 0 D cI cZ cC cG cB ad a b (w_A ad 75)) cX2_pairOf RX2 wsX2_pairOf (some .int) := K
  have hn : x_n (GS l 0 0 D cI cZ cC cG cB ad a b (w_A ad 75)) = 2 := hn
  refine k_sub [0, 1] rfl ?_
  refine k_aload_n K dX2_pairOf_0 0 rfl ?_
  refine k_get K u 2 0 iX2_pairOf_X2 (lS_C hu) ((mS_C cI cZ cC cG cB ad hu) _) rfl (by decide) fX2_pairOf_33 rfl dX2_pairOf_1 ?_
  refine k_iconst (x := 1) K dX2_pairOf_4 (by decide) ?_
  refine k_icmp_ge (tgt := 13) K dX2_pairOf_5 (by decide) (fun q => ?_) (fun q => ?_)
  · have h := if_f q h
    refine k_bipush (x := 10) K dX2_pairOf_13 (by decide) ?_
    refine k_iload_n K dX2_pairOf_15 1 rfl ?_
    refine k_aload_n K dX2_pairOf_16 0 rfl ?_
    refine k_get K u 2 0 iX2_pairOf_X2 (lS_C hu) ((mS_C cI cZ cC cG cB ad hu) _) rfl (by decide) fX2_pairOf_33 rfl dX2_pairOf_17 ?_
    obtain ⟨g1, h⟩ := gd_some h
    refine k_irem K dX2_pairOf_20 g1 ?_
    refine k_imul K dX2_pairOf_21 ?_
    refine k_iload_n K dX2_pairOf_22 1 rfl ?_
    refine k_aload_n K dX2_pairOf_23 0 rfl ?_
    refine k_get K u 2 0 iX2_pairOf_X2 (lS_C hu) ((mS_C cI cZ cC cG cB ad hu) _) rfl (by decide) fX2_pairOf_33 rfl dX2_pairOf_24 ?_
    obtain ⟨g2, h⟩ := gd_some h
    refine k_idiv K dX2_pairOf_27 g2 ?_
    refine k_iadd K dX2_pairOf_28 ?_
    exact ret_i hR h dX2_pairOf_29 trivial
  · have h := if_t q h
    refine k_bipush (x := (-9)) K dX2_pairOf_8 (by decide) ?_
    refine k_goto (tgt := 29) K dX2_pairOf_10 (by decide) ?_
    exact ret_i hR h dX2_pairOf_29 trivial
-- X3_copyRow (1, 40)
set_option maxRecDepth 100000 in
set_option maxHeartbeats 4000000 in
theorem ctX3_copyRow {l : Launch} {D : va_G} {cI cZ cC cG cB : ClassId} {ad : Nat → Nat} {i : Nat} {ni : Nat} {j : Nat} {nj : Nat} {σ : St} {res : (Int32 × St)} (hil : i < 75) (him : ∀ f, mkS cI cZ cC cG cB ad i f = .inl (cI, ni, .inl f)) (hjl : j < 75) (hjm : ∀ f, mkS cI cZ cC cG cB ad j f = .inl (cI, nj, .inl f)) (h : mX3_copyRow i ni j nj σ = some res) : Cv l yX3_copyRow wsX3_copyRow 1 40 D vwCl (tysS cI cZ cC cG cB) nwS (mkS cI cZ cC cG cB ad) ad 75 [.ref (ad i), .ref (ad j)] σ res := by
  refine c_void (cc := cX3_copyRow) (maxL := 2) (by decide) rfl (Nat.le_of_ble_eq_true rfl) fun a b hn K hR => ?_
  unfold mX3_copyRow at h
  have K : KS (GS l 1 40 D cI cZ cC cG cB ad a b (w_A ad 75)) cX3_copyRow RX3 wsX3_copyRow none := K
  have hn : x_n (GS l 1 40 D cI cZ cC cG cB ad a b (w_A ad 75)) = 2 := hn
  refine k_sub [0, 1] rfl ?_
  refine k_aload_n K dX3_copyRow_0 0 rfl ?_
  refine k_iconst (x := 0) K dX3_copyRow_1 (by decide) ?_
  refine k_aload_n K dX3_copyRow_2 1 rfl ?_
  refine k_iconst (x := 0) K dX3_copyRow_3 (by decide) ?_
  refine k_aload_n K dX3_copyRow_4 0 rfl ?_
  refine k_len (x := (Int32.ofNat ni)) K i 0 hil (him _) rfl rfl dX3_copyRow_5 ?_
  refine k_aload_n K dX3_copyRow_6 1 rfl ?_
  refine k_len (x := (Int32.ofNat nj)) K j 0 hjl (hjm _) rfl rfl dX3_copyRow_7 ?_
  refine k_min K (by decide +kernel) (by decide +kernel) (by decide +kernel) (by decide +kernel) (Nat.le_of_ble_eq_true rfl) (Nat.le_of_ble_eq_true rfl) dX3_copyRow_8 ?_
  obtain ⟨g1, h⟩ := gd_some h
  have h := lt_some h
  refine k_copy K i j hil hjl him hjm (by decide +kernel) (by decide +kernel) (by decide +kernel) (by decide +kernel) rfl g1 (Nat.le_of_ble_eq_true rfl) (Nat.le_of_ble_eq_true rfl) dX3_copyRow_11 ?_
  exact ret_v hR h dX3_copyRow_14
-- X3_layOut (2, 61)
theorem iX3_layOut_X2 : ∀ w ∈ wsX20, w ∈ wsX3_layOut := fun _ h => List.mem_cons_of_mem _ (List.mem_append_right _ h)
theorem iX3_layOut_X3 : ∀ w ∈ wsX30, w ∈ wsX3_layOut := fun _ h => List.mem_cons_of_mem _ (List.mem_append_left _ (List.mem_append_right _ h))
theorem fX3_layOut_9 : Cond.fieldLink RX3 9 "SlopeCoins$Ground" "height" "[I" ∈ wsX3_layOut := by decide +kernel
theorem fX3_layOut_15 : Cond.fieldLink RX3 15 "SlopeCoins$Ground" "plank" "[I" ∈ wsX3_layOut := by decide +kernel
theorem fX3_layOut_18 : Cond.fieldLink RX3 18 "SlopeCoins$Ground" "lie" "[I" ∈ wsX3_layOut := by decide +kernel
theorem fX3_layOut_21 : Cond.fieldLink RX3 21 "SlopeCoins$Ground" "lieWorth" "[I" ∈ wsX3_layOut := by decide +kernel
theorem fX3_layOut_24 : Cond.fieldLink RX3 24 "SlopeCoins$Ground" "in" "[I" ∈ wsX3_layOut := by decide +kernel
theorem fX3_layOut_27 : Cond.fieldLink RX3 27 "SlopeCoins$Ground" "inWorth" "[I" ∈ wsX3_layOut := by decide +kernel
theorem fX3_layOut_42 : Cond.fieldLink RX3 42 "SlopeCoins$Ground" "planks" "I" ∈ wsX3_layOut := by decide +kernel
theorem fX3_layOut_46 : Cond.fieldLink RX3 46 "SlopeCoins$Ground" "deeds" "I" ∈ wsX3_layOut := by decide +kernel
theorem fX3_layOut_49 : Cond.fieldLink RX3 49 "SlopeCoins$City" "height" "[I" ∈ wsX3_layOut := by decide +kernel
set_option maxRecDepth 100000 in
set_option maxHeartbeats 4000000 in
theorem ctX3_layOut {l : Launch} {D : va_G} {cI cZ cC cG cB : ClassId} {ad : Nat → Nat} {σ : St} {res : (Int32 × St)} (h : mX3_layOut σ = some res) : Cv l yX3_layOut wsX3_layOut 2 61 D vwCl (tysS cI cZ cC cG cB) nwS (mkS cI cZ cC cG cB ad) ad 75 [.ref (ad 26), .ref (ad 10)] σ res := by
  refine c_void (cc := cX3_layOut) (maxL := 2) (by decide) rfl (Nat.le_of_ble_eq_true rfl) fun a b hn K hR => ?_
  unfold mX3_layOut at h
  have K : KS (GS l 2 61 D cI cZ cC cG cB ad a b (w_A ad 75)) cX3_layOut RX3 wsX3_layOut none := K
  have hn : x_n (GS l 2 61 D cI cZ cC cG cB ad a b (w_A ad 75)) = 2 := hn
  refine k_sub [0, 1] rfl ?_
  refine k_aload_n K dX3_layOut_0 0 rfl ?_
  refine k_iconst (x := 0) K dX3_layOut_1 (by decide) ?_
  have h := lt_some h
  refine k_putI K 26 3 0 tyX3 tyX3_ok nmX3 iX3_layOut_X3 (Nat.le_of_ble_eq_true rfl) ((mS_26 cI cZ cC cG cB ad) _) rfl (by decide) fX3_layOut_42 rfl (by decide +kernel) (Nat.le_of_ble_eq_true rfl) (pS_26_0 cI cZ cC cG cB ad _ _) dX3_layOut_2 ?_
  refine k_aload_n K dX3_layOut_5 0 rfl ?_
  refine k_iconst (x := 0) K dX3_layOut_6 (by decide) ?_
  have h := lt_some h
  refine k_putI K 26 3 1 tyX3 tyX3_ok nmX3 iX3_layOut_X3 (Nat.le_of_ble_eq_true rfl) ((mS_26 cI cZ cC cG cB ad) _) rfl (by decide) fX3_layOut_46 rfl (by decide +kernel) (Nat.le_of_ble_eq_true rfl) (pS_26_1 cI cZ cC cG cB ad _ _) dX3_layOut_7 ?_
  refine k_aload_n K dX3_layOut_10 1 rfl ?_
  refine k_get K 10 2 5 iX3_layOut_X2 (Nat.le_of_ble_eq_true rfl) ((mS_10 cI cZ cC cG cB ad) _) rfl (by decide) fX3_layOut_49 rfl dX3_layOut_11 ?_
  refine k_aload_n K dX3_layOut_14 0 rfl ?_
  refine k_get K 26 3 2 iX3_layOut_X3 (Nat.le_of_ble_eq_true rfl) ((mS_26 cI cZ cC cG cB ad) _) rfl (by decide) fX3_layOut_9 rfl dX3_layOut_15 ?_
  obtain ⟨⟨r3, s4⟩, e5, h⟩ := bd_some h
  dsimp only at h
  refine k_callSv K (ctX3_copyRow (Nat.le_of_ble_eq_true rfl) (mS_11 cI cZ cC cG cB ad) (Nat.le_of_ble_eq_true rfl) (mS_27 cI cZ cC cG cB ad) e5) (va_cwS 2 K.ts gX3_layOut_X3_copyRow rfl rfl rfl hSX3_copyRow ⟨Nat.le_of_ble_eq_true rfl, Nat.le_of_ble_eq_true rfl⟩) rfl rfl (Nat.le_of_ble_eq_true rfl) dX3_layOut_18 ?_
  refine k_aload_n K dX3_layOut_21 0 rfl ?_
  refine k_get K 26 3 3 iX3_layOut_X3 (Nat.le_of_ble_eq_true rfl) ((mS_26 cI cZ cC cG cB ad) _) rfl (by decide) fX3_layOut_15 rfl dX3_layOut_22 ?_
  refine k_iconst (x := 0) K dX3_layOut_25 (by decide) ?_
  obtain ⟨⟨r6, s7⟩, e8, h⟩ := bd_some h
  dsimp only at h
  refine k_callSv K (ctJ7_fill (Nat.le_of_ble_eq_true rfl) (mS_28 cI cZ cC cG cB ad) e8) (va_cwS 2 K.ts gX3_layOut_J7_fill_53178 rfl rfl rfl hSJ7_fill_53178 ⟨Nat.le_of_ble_eq_true rfl, Nat.le_of_ble_eq_true rfl⟩) rfl rfl (Nat.le_of_ble_eq_true rfl) dX3_layOut_26 ?_
  refine k_aload_n K dX3_layOut_29 0 rfl ?_
  refine k_get K 26 3 4 iX3_layOut_X3 (Nat.le_of_ble_eq_true rfl) ((mS_26 cI cZ cC cG cB ad) _) rfl (by decide) fX3_layOut_18 rfl dX3_layOut_30 ?_
  refine k_iconst (x := 0) K dX3_layOut_33 (by decide) ?_
  obtain ⟨⟨r9, s10⟩, e11, h⟩ := bd_some h
  dsimp only at h
  refine k_callSv K (ctJ7_fill (Nat.le_of_ble_eq_true rfl) (mS_29 cI cZ cC cG cB ad) e11) (va_cwS 2 K.ts gX3_layOut_J7_fill_53178 rfl rfl rfl hSJ7_fill_53178 ⟨Nat.le_of_ble_eq_true rfl, Nat.le_of_ble_eq_true rfl⟩) rfl rfl (Nat.le_of_ble_eq_true rfl) dX3_layOut_34 ?_
  refine k_aload_n K dX3_layOut_37 0 rfl ?_
  refine k_get K 26 3 5 iX3_layOut_X3 (Nat.le_of_ble_eq_true rfl) ((mS_26 cI cZ cC cG cB ad) _) rfl (by decide) fX3_layOut_21 rfl dX3_layOut_38 ?_
  refine k_iconst (x := 0) K dX3_layOut_41 (by decide) ?_
  obtain ⟨⟨r12, s13⟩, e14, h⟩ := bd_some h
  dsimp only at h
  refine k_callSv K (ctJ7_fill (Nat.le_of_ble_eq_true rfl) (mS_30 cI cZ cC cG cB ad) e14) (va_cwS 2 K.ts gX3_layOut_J7_fill_53178 rfl rfl rfl hSJ7_fill_53178 ⟨Nat.le_of_ble_eq_true rfl, Nat.le_of_ble_eq_true rfl⟩) rfl rfl (Nat.le_of_ble_eq_true rfl) dX3_layOut_42 ?_
  refine k_aload_n K dX3_layOut_45 0 rfl ?_
  refine k_get K 26 3 6 iX3_layOut_X3 (Nat.le_of_ble_eq_true rfl) ((mS_26 cI cZ cC cG cB ad) _) rfl (by decide) fX3_layOut_24 rfl dX3_layOut_46 ?_
  refine k_iconst (x := 0) K dX3_layOut_49 (by decide) ?_
  obtain ⟨⟨r15, s16⟩, e17, h⟩ := bd_some h
  dsimp only at h
  refine k_callSv K (ctJ7_fill (Nat.le_of_ble_eq_true rfl) (mS_31 cI cZ cC cG cB ad) e17) (va_cwS 2 K.ts gX3_layOut_J7_fill_53178 rfl rfl rfl hSJ7_fill_53178 ⟨Nat.le_of_ble_eq_true rfl, Nat.le_of_ble_eq_true rfl⟩) rfl rfl (Nat.le_of_ble_eq_true rfl) dX3_layOut_50 ?_
  refine k_aload_n K dX3_layOut_53 0 rfl ?_
  refine k_get K 26 3 7 iX3_layOut_X3 (Nat.le_of_ble_eq_true rfl) ((mS_26 cI cZ cC cG cB ad) _) rfl (by decide) fX3_layOut_27 rfl dX3_layOut_54 ?_
  refine k_iconst (x := 0) K dX3_layOut_57 (by decide) ?_
  obtain ⟨⟨r18, s19⟩, e20, h⟩ := bd_some h
  dsimp only at h
  refine k_callSv K (ctJ7_fill (Nat.le_of_ble_eq_true rfl) (mS_32 cI cZ cC cG cB ad) e20) (va_cwS 2 K.ts gX3_layOut_J7_fill_53178 rfl rfl rfl hSJ7_fill_53178 ⟨Nat.le_of_ble_eq_true rfl, Nat.le_of_ble_eq_true rfl⟩) rfl rfl (Nat.le_of_ble_eq_true rfl) dX3_layOut_58 ?_
  exact ret_v hR h dX3_layOut_61
-- X3_copyOf (2, 61)
theorem iX3_copyOf_X3 : ∀ w ∈ wsX30, w ∈ wsX3_copyOf := fun _ h => List.mem_cons_of_mem _ (List.mem_append_right _ h)
theorem fX3_copyOf_9 : Cond.fieldLink RX3 9 "SlopeCoins$Ground" "height" "[I" ∈ wsX3_copyOf := by decide +kernel
theorem fX3_copyOf_15 : Cond.fieldLink RX3 15 "SlopeCoins$Ground" "plank" "[I" ∈ wsX3_copyOf := by decide +kernel
theorem fX3_copyOf_18 : Cond.fieldLink RX3 18 "SlopeCoins$Ground" "lie" "[I" ∈ wsX3_copyOf := by decide +kernel
theorem fX3_copyOf_21 : Cond.fieldLink RX3 21 "SlopeCoins$Ground" "lieWorth" "[I" ∈ wsX3_copyOf := by decide +kernel
theorem fX3_copyOf_24 : Cond.fieldLink RX3 24 "SlopeCoins$Ground" "in" "[I" ∈ wsX3_copyOf := by decide +kernel
theorem fX3_copyOf_27 : Cond.fieldLink RX3 27 "SlopeCoins$Ground" "inWorth" "[I" ∈ wsX3_copyOf := by decide +kernel
theorem fX3_copyOf_30 : Cond.fieldLink RX3 30 "SlopeCoins$Ground" "deed" "[I" ∈ wsX3_copyOf := by decide +kernel
theorem fX3_copyOf_33 : Cond.fieldLink RX3 33 "SlopeCoins$Ground" "deedAt" "[I" ∈ wsX3_copyOf := by decide +kernel
theorem fX3_copyOf_36 : Cond.fieldLink RX3 36 "SlopeCoins$Ground" "deedMuch" "[I" ∈ wsX3_copyOf := by decide +kernel
theorem fX3_copyOf_39 : Cond.fieldLink RX3 39 "SlopeCoins$Ground" "deedWorth" "[I" ∈ wsX3_copyOf := by decide +kernel
theorem fX3_copyOf_42 : Cond.fieldLink RX3 42 "SlopeCoins$Ground" "planks" "I" ∈ wsX3_copyOf := by decide +kernel
theorem fX3_copyOf_46 : Cond.fieldLink RX3 46 "SlopeCoins$Ground" "deeds" "I" ∈ wsX3_copyOf := by decide +kernel
set_option maxRecDepth 100000 in
set_option maxHeartbeats 4000000 in
theorem ctX3_copyOf {l : Launch} {D : va_G} {cI cZ cC cG cB : ClassId} {ad : Nat → Nat} {g : Nat} {o : Nat} {σ : St} {res : (Int32 × St)} (hg : isG g) (ho : isG o) (h : mX3_copyOf g o σ = some res) : Cv l yX3_copyOf wsX3_copyOf 2 61 D vwCl (tysS cI cZ cC cG cB) nwS (mkS cI cZ cC cG cB ad) ad 75 [.ref (ad g), .ref (ad o)] σ res := by
  refine c_void (cc := cX3_copyOf) (maxL := 2) (by decide) rfl (Nat.le_of_ble_eq_true rfl) fun a b hn K hR => ?_
  unfold mX3_copyOf at h
  have K : KS (GS l 2 61 D cI cZ cC cG cB ad a b (w_A ad 75)) cX3_copyOf RX3 wsX3_copyOf none := K
  have hn : x_n (GS l 2 61 D cI cZ cC cG cB ad a b (w_A ad 75)) = 2 := hn
  refine k_sub [0, 1] rfl ?_
  refine k_aload_n K dX3_copyOf_0 0 rfl ?_
  refine k_aload_n K dX3_copyOf_1 1 rfl ?_
  refine k_get K o 3 0 iX3_copyOf_X3 (lS_G ho) ((mS_G cI cZ cC cG cB ad ho) _) rfl (by decide) fX3_copyOf_42 rfl dX3_copyOf_2 ?_
  have h := lt_some h
  refine k_putI K g 3 0 tyX3 tyX3_ok nmX3 iX3_copyOf_X3 (lS_G hg) ((mS_G cI cZ cC cG cB ad hg) _) rfl (by decide) fX3_copyOf_42 rfl (by decide +kernel) (Nat.le_of_ble_eq_true rfl) (pS_G_0 cI cZ cC cG cB ad hg _ _) dX3_copyOf_5 ?_
  refine k_aload_n K dX3_copyOf_8 0 rfl ?_
  refine k_aload_n K dX3_copyOf_9 1 rfl ?_
  refine k_get K o 3 1 iX3_copyOf_X3 (lS_G ho) ((mS_G cI cZ cC cG cB ad ho) _) rfl (by decide) fX3_copyOf_46 rfl dX3_copyOf_10 ?_
  have h := lt_some h
  refine k_putI K g 3 1 tyX3 tyX3_ok nmX3 iX3_copyOf_X3 (lS_G hg) ((mS_G cI cZ cC cG cB ad hg) _) rfl (by decide) fX3_copyOf_46 rfl (by decide +kernel) (Nat.le_of_ble_eq_true rfl) (pS_G_1 cI cZ cC cG cB ad hg _ _) dX3_copyOf_13 ?_
  refine k_aload_n K dX3_copyOf_16 1 rfl ?_
  refine k_get K o 3 2 iX3_copyOf_X3 (lS_G ho) ((mS_G cI cZ cC cG cB ad ho) _) rfl (by decide) fX3_copyOf_9 rfl dX3_copyOf_17 ?_
  refine k_aload_n K dX3_copyOf_20 0 rfl ?_
  refine k_get K g 3 2 iX3_copyOf_X3 (lS_G hg) ((mS_G cI cZ cC cG cB ad hg) _) rfl (by decide) fX3_copyOf_9 rfl dX3_copyOf_21 ?_
  obtain ⟨⟨r3, s4⟩, e5, h⟩ := bd_some h
  dsimp only at h
  refine k_callSv K (ctX3_copyRow (lS_G1 ho) (mS_G1 cI cZ cC cG cB ad ho) (lS_G1 hg) (mS_G1 cI cZ cC cG cB ad hg) e5) (va_cwS 2 K.ts gX3_copyOf_X3_copyRow rfl rfl rfl hSX3_copyRow ⟨Nat.le_of_ble_eq_true rfl, Nat.le_of_ble_eq_true rfl⟩) rfl rfl (Nat.le_of_ble_eq_true rfl) dX3_copyOf_24 ?_
  refine k_aload_n K dX3_copyOf_27 1 rfl ?_
  refine k_get K o 3 3 iX3_copyOf_X3 (lS_G ho) ((mS_G cI cZ cC cG cB ad ho) _) rfl (by decide) fX3_copyOf_15 rfl dX3_copyOf_28 ?_
  refine k_aload_n K dX3_copyOf_31 0 rfl ?_
  refine k_get K g 3 3 iX3_copyOf_X3 (lS_G hg) ((mS_G cI cZ cC cG cB ad hg) _) rfl (by decide) fX3_copyOf_15 rfl dX3_copyOf_32 ?_
  obtain ⟨⟨r6, s7⟩, e8, h⟩ := bd_some h
  dsimp only at h
  refine k_callSv K (ctX3_copyRow (lS_G2 ho) (mS_G2 cI cZ cC cG cB ad ho) (lS_G2 hg) (mS_G2 cI cZ cC cG cB ad hg) e8) (va_cwS 2 K.ts gX3_copyOf_X3_copyRow rfl rfl rfl hSX3_copyRow ⟨Nat.le_of_ble_eq_true rfl, Nat.le_of_ble_eq_true rfl⟩) rfl rfl (Nat.le_of_ble_eq_true rfl) dX3_copyOf_35 ?_
  refine k_aload_n K dX3_copyOf_38 1 rfl ?_
  refine k_get K o 3 4 iX3_copyOf_X3 (lS_G ho) ((mS_G cI cZ cC cG cB ad ho) _) rfl (by decide) fX3_copyOf_18 rfl dX3_copyOf_39 ?_
  refine k_aload_n K dX3_copyOf_42 0 rfl ?_
  refine k_get K g 3 4 iX3_copyOf_X3 (lS_G hg) ((mS_G cI cZ cC cG cB ad hg) _) rfl (by decide) fX3_copyOf_18 rfl dX3_copyOf_43 ?_
  obtain ⟨⟨r9, s10⟩, e11, h⟩ := bd_some h
  dsimp only at h
  refine k_callSv K (ctX3_copyRow (lS_G3 ho) (mS_G3 cI cZ cC cG cB ad ho) (lS_G3 hg) (mS_G3 cI cZ cC cG cB ad hg) e11) (va_cwS 2 K.ts gX3_copyOf_X3_copyRow rfl rfl rfl hSX3_copyRow ⟨Nat.le_of_ble_eq_true rfl, Nat.le_of_ble_eq_true rfl⟩) rfl rfl (Nat.le_of_ble_eq_true rfl) dX3_copyOf_46 ?_
  refine k_aload_n K dX3_copyOf_49 1 rfl ?_
  refine k_get K o 3 5 iX3_copyOf_X3 (lS_G ho) ((mS_G cI cZ cC cG cB ad ho) _) rfl (by decide) fX3_copyOf_21 rfl dX3_copyOf_50 ?_
  refine k_aload_n K dX3_copyOf_53 0 rfl ?_
  refine k_get K g 3 5 iX3_copyOf_X3 (lS_G hg) ((mS_G cI cZ cC cG cB ad hg) _) rfl (by decide) fX3_copyOf_21 rfl dX3_copyOf_54 ?_
  obtain ⟨⟨r12, s13⟩, e14, h⟩ := bd_some h
  dsimp only at h
  refine k_callSv K (ctX3_copyRow (lS_G4 ho) (mS_G4 cI cZ cC cG cB ad ho) (lS_G4 hg) (mS_G4 cI cZ cC cG cB ad hg) e14) (va_cwS 2 K.ts gX3_copyOf_X3_copyRow rfl rfl rfl hSX3_copyRow ⟨Nat.le_of_ble_eq_true rfl, Nat.le_of_ble_eq_true rfl⟩) rfl rfl (Nat.le_of_ble_eq_true rfl) dX3_copyOf_57 ?_
  refine k_aload_n K dX3_copyOf_60 1 rfl ?_
  refine k_get K o 3 6 iX3_copyOf_X3 (lS_G ho) ((mS_G cI cZ cC cG cB ad ho) _) rfl (by decide) fX3_copyOf_24 rfl dX3_copyOf_61 ?_
  refine k_aload_n K dX3_copyOf_64 0 rfl ?_
  refine k_get K g 3 6 iX3_copyOf_X3 (lS_G hg) ((mS_G cI cZ cC cG cB ad hg) _) rfl (by decide) fX3_copyOf_24 rfl dX3_copyOf_65 ?_
  obtain ⟨⟨r15, s16⟩, e17, h⟩ := bd_some h
  dsimp only at h
  refine k_callSv K (ctX3_copyRow (lS_G5 ho) (mS_G5 cI cZ cC cG cB ad ho) (lS_G5 hg) (mS_G5 cI cZ cC cG cB ad hg) e17) (va_cwS 2 K.ts gX3_copyOf_X3_copyRow rfl rfl rfl hSX3_copyRow ⟨Nat.le_of_ble_eq_true rfl, Nat.le_of_ble_eq_true rfl⟩) rfl rfl (Nat.le_of_ble_eq_true rfl) dX3_copyOf_68 ?_
  refine k_aload_n K dX3_copyOf_71 1 rfl ?_
  refine k_get K o 3 7 iX3_copyOf_X3 (lS_G ho) ((mS_G cI cZ cC cG cB ad ho) _) rfl (by decide) fX3_copyOf_27 rfl dX3_copyOf_72 ?_
  refine k_aload_n K dX3_copyOf_75 0 rfl ?_
  refine k_get K g 3 7 iX3_copyOf_X3 (lS_G hg) ((mS_G cI cZ cC cG cB ad hg) _) rfl (by decide) fX3_copyOf_27 rfl dX3_copyOf_76 ?_
  obtain ⟨⟨r18, s19⟩, e20, h⟩ := bd_some h
  dsimp only at h
  refine k_callSv K (ctX3_copyRow (lS_G6 ho) (mS_G6 cI cZ cC cG cB ad ho) (lS_G6 hg) (mS_G6 cI cZ cC cG cB ad hg) e20) (va_cwS 2 K.ts gX3_copyOf_X3_copyRow rfl rfl rfl hSX3_copyRow ⟨Nat.le_of_ble_eq_true rfl, Nat.le_of_ble_eq_true rfl⟩) rfl rfl (Nat.le_of_ble_eq_true rfl) dX3_copyOf_79 ?_
  refine k_aload_n K dX3_copyOf_82 1 rfl ?_
  refine k_get K o 3 8 iX3_copyOf_X3 (lS_G ho) ((mS_G cI cZ cC cG cB ad ho) _) rfl (by decide) fX3_copyOf_30 rfl dX3_copyOf_83 ?_
  refine k_aload_n K dX3_copyOf_86 0 rfl ?_
  refine k_get K g 3 8 iX3_copyOf_X3 (lS_G hg) ((mS_G cI cZ cC cG cB ad hg) _) rfl (by decide) fX3_copyOf_30 rfl dX3_copyOf_87 ?_
  obtain ⟨⟨r21, s22⟩, e23, h⟩ := bd_some h
  dsimp only at h
  refine k_callSv K (ctX3_copyRow (lS_G7 ho) (mS_G7 cI cZ cC cG cB ad ho) (lS_G7 hg) (mS_G7 cI cZ cC cG cB ad hg) e23) (va_cwS 2 K.ts gX3_copyOf_X3_copyRow rfl rfl rfl hSX3_copyRow ⟨Nat.le_of_ble_eq_true rfl, Nat.le_of_ble_eq_true rfl⟩) rfl rfl (Nat.le_of_ble_eq_true rfl) dX3_copyOf_90 ?_
  refine k_aload_n K dX3_copyOf_93 1 rfl ?_
  refine k_get K o 3 9 iX3_copyOf_X3 (lS_G ho) ((mS_G cI cZ cC cG cB ad ho) _) rfl (by decide) fX3_copyOf_33 rfl dX3_copyOf_94 ?_
  refine k_aload_n K dX3_copyOf_97 0 rfl ?_
  refine k_get K g 3 9 iX3_copyOf_X3 (lS_G hg) ((mS_G cI cZ cC cG cB ad hg) _) rfl (by decide) fX3_copyOf_33 rfl dX3_copyOf_98 ?_
  obtain ⟨⟨r24, s25⟩, e26, h⟩ := bd_some h
  dsimp only at h
  refine k_callSv K (ctX3_copyRow (lS_G8 ho) (mS_G8 cI cZ cC cG cB ad ho) (lS_G8 hg) (mS_G8 cI cZ cC cG cB ad hg) e26) (va_cwS 2 K.ts gX3_copyOf_X3_copyRow rfl rfl rfl hSX3_copyRow ⟨Nat.le_of_ble_eq_true rfl, Nat.le_of_ble_eq_true rfl⟩) rfl rfl (Nat.le_of_ble_eq_true rfl) dX3_copyOf_101 ?_
  refine k_aload_n K dX3_copyOf_104 1 rfl ?_
  refine k_get K o 3 10 iX3_copyOf_X3 (lS_G ho) ((mS_G cI cZ cC cG cB ad ho) _) rfl (by decide) fX3_copyOf_36 rfl dX3_copyOf_105 ?_
  refine k_aload_n K dX3_copyOf_108 0 rfl ?_
  refine k_get K g 3 10 iX3_copyOf_X3 (lS_G hg) ((mS_G cI cZ cC cG cB ad hg) _) rfl (by decide) fX3_copyOf_36 rfl dX3_copyOf_109 ?_
  obtain ⟨⟨r27, s28⟩, e29, h⟩ := bd_some h
  dsimp only at h
  refine k_callSv K (ctX3_copyRow (lS_G9 ho) (mS_G9 cI cZ cC cG cB ad ho) (lS_G9 hg) (mS_G9 cI cZ cC cG cB ad hg) e29) (va_cwS 2 K.ts gX3_copyOf_X3_copyRow rfl rfl rfl hSX3_copyRow ⟨Nat.le_of_ble_eq_true rfl, Nat.le_of_ble_eq_true rfl⟩) rfl rfl (Nat.le_of_ble_eq_true rfl) dX3_copyOf_112 ?_
  refine k_aload_n K dX3_copyOf_115 1 rfl ?_
  refine k_get K o 3 11 iX3_copyOf_X3 (lS_G ho) ((mS_G cI cZ cC cG cB ad ho) _) rfl (by decide) fX3_copyOf_39 rfl dX3_copyOf_116 ?_
  refine k_aload_n K dX3_copyOf_119 0 rfl ?_
  refine k_get K g 3 11 iX3_copyOf_X3 (lS_G hg) ((mS_G cI cZ cC cG cB ad hg) _) rfl (by decide) fX3_copyOf_39 rfl dX3_copyOf_120 ?_
  obtain ⟨⟨r30, s31⟩, e32, h⟩ := bd_some h
  dsimp only at h
  refine k_callSv K (ctX3_copyRow (lS_G10 ho) (mS_G10 cI cZ cC cG cB ad ho) (lS_G10 hg) (mS_G10 cI cZ cC cG cB ad hg) e32) (va_cwS 2 K.ts gX3_copyOf_X3_copyRow rfl rfl rfl hSX3_copyRow ⟨Nat.le_of_ble_eq_true rfl, Nat.le_of_ble_eq_true rfl⟩) rfl rfl (Nat.le_of_ble_eq_true rfl) dX3_copyOf_123 ?_
  exact ret_v hR h dX3_copyOf_126
-- X3_addCoins (0, 0)
theorem iX3_addCoins_X3 : ∀ w ∈ wsX30, w ∈ wsX3_addCoins := fun _ h => List.mem_cons_of_mem _ (List.mem_append_right _ h)
theorem fX3_addCoins_18 : Cond.fieldLink RX3 18 "SlopeCoins$Ground" "lie" "[I" ∈ wsX3_addCoins := by decide +kernel
theorem fX3_addCoins_21 : Cond.fieldLink RX3 21 "SlopeCoins$Ground" "lieWorth" "[I" ∈ wsX3_addCoins := by decide +kernel
theorem fX3_addCoins_24 : Cond.fieldLink RX3 24 "SlopeCoins$Ground" "in" "[I" ∈ wsX3_addCoins := by decide +kernel
theorem fX3_addCoins_27 : Cond.fieldLink RX3 27 "SlopeCoins$Ground" "inWorth" "[I" ∈ wsX3_addCoins := by decide +kernel
set_option maxRecDepth 100000 in
set_option maxHeartbeats 4000000 in
theorem ctX3_addCoins {l : Launch} {D : va_G} {cI cZ cC cG cB : ClassId} {ad : Nat → Nat} {v1 : Int32} {v2 : Int32} {v3 : Int32} {v4 : Int32} {σ : St} {res : (Int32 × St)} (h : mX3_addCoins v1 v2 v3 v4 σ = some res) : Cv l yX3_addCoins wsX3_addCoins 0 0 D vwCl (tysS cI cZ cC cG cB) nwS (mkS cI cZ cC cG cB ad) ad 75 [.ref (ad 26), .int v1, .int v2, .int v3, .int v4] σ res := by
  refine c_void (cc := cX3_addCoins) (maxL := 5) (by decide) rfl (Nat.le_of_ble_eq_true rfl) fun a b hn K hR => ?_
  unfold mX3_addCoins at h
  have K : KS (GS l 0 0 D cI cZ cC cG cB ad a b (w_A ad 75)) cX3_addCoins RX3 wsX3_addCoins none := K
  have hn : x_n (GS l 0 0 D cI cZ cC cG cB ad a b (w_A ad 75)) = 5 := hn
  refine k_sub [0, 1, 2, 3, 4] rfl ?_
  refine k_iload_n K dX3_addCoins_0 1 rfl ?_
  refine k_iconst (x := 1) K dX3_addCoins_1 (by decide) ?_
  refine k_icmp_ne (tgt := 29) K dX3_addCoins_2 (by decide) (fun q => ?_) (fun q => ?_)
  · have h := if_f q h
    refine k_aload_n K dX3_addCoins_29 0 rfl ?_
    refine k_get K 26 3 4 iX3_addCoins_X3 (Nat.le_of_ble_eq_true rfl) ((mS_26 cI cZ cC cG cB ad) _) rfl (by decide) fX3_addCoins_18 rfl dX3_addCoins_30 ?_
    refine k_iload_n K dX3_addCoins_33 2 rfl ?_
    refine k_dup2 K dX3_addCoins_34 rfl rfl ?_
    obtain ⟨g1, h⟩ := gd_some h
    refine k_ild K 29 0 (Nat.le_of_ble_eq_true rfl) ((mS_29 cI cZ cC cG cB ad) _) rfl g1 dX3_addCoins_35 ?_
    refine k_iload_n K dX3_addCoins_36 3 rfl ?_
    refine k_iadd K dX3_addCoins_37 ?_
    obtain ⟨g2, h⟩ := gd_some h
    have h := lt_some h
    refine k_ist K 29 0 (Nat.le_of_ble_eq_true rfl) (mS_29 cI cZ cC cG cB ad) rfl g2 dX3_addCoins_38 ?_
    refine k_aload_n K dX3_addCoins_39 0 rfl ?_
    refine k_get K 26 3 5 iX3_addCoins_X3 (Nat.le_of_ble_eq_true rfl) ((mS_26 cI cZ cC cG cB ad) _) rfl (by decide) fX3_addCoins_21 rfl dX3_addCoins_40 ?_
    refine k_iload_n K dX3_addCoins_43 2 rfl ?_
    refine k_dup2 K dX3_addCoins_44 rfl rfl ?_
    obtain ⟨g4, h⟩ := gd_some h
    refine k_ild K 30 0 (Nat.le_of_ble_eq_true rfl) ((mS_30 cI cZ cC cG cB ad) _) rfl g4 dX3_addCoins_45 ?_
    refine k_iload K dX3_addCoins_46 4 rfl ?_
    refine k_iadd K dX3_addCoins_48 ?_
    obtain ⟨g5, h⟩ := gd_some h
    have h := lt_some h
    refine k_ist K 30 0 (Nat.le_of_ble_eq_true rfl) (mS_30 cI cZ cC cG cB ad) rfl g5 dX3_addCoins_49 ?_
    exact ret_v hR h dX3_addCoins_50
  · have h := if_t q h
    refine k_aload_n K dX3_addCoins_5 0 rfl ?_
    refine k_get K 26 3 6 iX3_addCoins_X3 (Nat.le_of_ble_eq_true rfl) ((mS_26 cI cZ cC cG cB ad) _) rfl (by decide) fX3_addCoins_24 rfl dX3_addCoins_6 ?_
    refine k_iload_n K dX3_addCoins_9 2 rfl ?_
    refine k_dup2 K dX3_addCoins_10 rfl rfl ?_
    obtain ⟨g7, h⟩ := gd_some h
    refine k_ild K 31 0 (Nat.le_of_ble_eq_true rfl) ((mS_31 cI cZ cC cG cB ad) _) rfl g7 dX3_addCoins_11 ?_
    refine k_iload_n K dX3_addCoins_12 3 rfl ?_
    refine k_iadd K dX3_addCoins_13 ?_
    obtain ⟨g8, h⟩ := gd_some h
    have h := lt_some h
    refine k_ist K 31 0 (Nat.le_of_ble_eq_true rfl) (mS_31 cI cZ cC cG cB ad) rfl g8 dX3_addCoins_14 ?_
    refine k_aload_n K dX3_addCoins_15 0 rfl ?_
    refine k_get K 26 3 7 iX3_addCoins_X3 (Nat.le_of_ble_eq_true rfl) ((mS_26 cI cZ cC cG cB ad) _) rfl (by decide) fX3_addCoins_27 rfl dX3_addCoins_16 ?_
    refine k_iload_n K dX3_addCoins_19 2 rfl ?_
    refine k_dup2 K dX3_addCoins_20 rfl rfl ?_
    obtain ⟨g10, h⟩ := gd_some h
    refine k_ild K 32 0 (Nat.le_of_ble_eq_true rfl) ((mS_32 cI cZ cC cG cB ad) _) rfl g10 dX3_addCoins_21 ?_
    refine k_iload K dX3_addCoins_22 4 rfl ?_
    refine k_iadd K dX3_addCoins_24 ?_
    obtain ⟨g11, h⟩ := gd_some h
    have h := lt_some h
    refine k_ist K 32 0 (Nat.le_of_ble_eq_true rfl) (mS_32 cI cZ cC cG cB ad) rfl g11 dX3_addCoins_25 ?_
    refine k_goto (tgt := 50) K dX3_addCoins_26 (by decide) ?_
    exact ret_v hR h dX3_addCoins_50
-- X3_loseOldest (1, 40)
set_option maxRecDepth 100000 in
set_option maxHeartbeats 4000000 in
theorem ctX3_loseOldest {l : Launch} {D : va_G} {cI cZ cC cG cB : ClassId} {ad : Nat → Nat} {i : Nat} {ni : Nat} {σ : St} {res : (Int32 × St)} (hil : i < 75) (him : ∀ f, mkS cI cZ cC cG cB ad i f = .inl (cI, ni, .inl f)) (h : mX3_loseOldest i ni σ = some res) : Cv l yX3_loseOldest wsX3_loseOldest 1 40 D vwCl (tysS cI cZ cC cG cB) nwS (mkS cI cZ cC cG cB ad) ad 75 [.ref (ad i)] σ res := by
  refine c_void (cc := cX3_loseOldest) (maxL := 1) (by decide) rfl (Nat.le_of_ble_eq_true rfl) fun a b hn K hR => ?_
  unfold mX3_loseOldest at h
  have K : KS (GS l 1 40 D cI cZ cC cG cB ad a b (w_A ad 75)) cX3_loseOldest RX3 wsX3_loseOldest none := K
  have hn : x_n (GS l 1 40 D cI cZ cC cG cB ad a b (w_A ad 75)) = 1 := hn
  refine k_sub [0] rfl ?_
  refine k_aload_n K dX3_loseOldest_0 0 rfl ?_
  refine k_iconst (x := 1) K dX3_loseOldest_1 (by decide) ?_
  refine k_aload_n K dX3_loseOldest_2 0 rfl ?_
  refine k_iconst (x := 0) K dX3_loseOldest_3 (by decide) ?_
  refine k_aload_n K dX3_loseOldest_4 0 rfl ?_
  refine k_len (x := (Int32.ofNat ni)) K i 0 hil (him _) rfl rfl dX3_loseOldest_5 ?_
  refine k_iconst (x := 1) K dX3_loseOldest_6 (by decide) ?_
  refine k_isub K dX3_loseOldest_7 ?_
  obtain ⟨g1, h⟩ := gd_some h
  have h := lt_some h
  refine k_copy K i i hil hil him him (by decide +kernel) (by decide +kernel) (by decide +kernel) (by decide +kernel) rfl g1 (Nat.le_of_ble_eq_true rfl) (Nat.le_of_ble_eq_true rfl) dX3_loseOldest_8 ?_
  exact ret_v hR h dX3_loseOldest_11
-- X3_note (2, 60)
theorem iX3_note_X3 : ∀ w ∈ wsX30, w ∈ wsX3_note := fun _ h => List.mem_cons_of_mem _ (List.mem_append_right _ h)
theorem fX3_note_30 : Cond.fieldLink RX3 30 "SlopeCoins$Ground" "deed" "[I" ∈ wsX3_note := by decide +kernel
theorem fX3_note_33 : Cond.fieldLink RX3 33 "SlopeCoins$Ground" "deedAt" "[I" ∈ wsX3_note := by decide +kernel
theorem fX3_note_36 : Cond.fieldLink RX3 36 "SlopeCoins$Ground" "deedMuch" "[I" ∈ wsX3_note := by decide +kernel
theorem fX3_note_39 : Cond.fieldLink RX3 39 "SlopeCoins$Ground" "deedWorth" "[I" ∈ wsX3_note := by decide +kernel
theorem fX3_note_46 : Cond.fieldLink RX3 46 "SlopeCoins$Ground" "deeds" "I" ∈ wsX3_note := by decide +kernel
set_option maxRecDepth 100000 in
set_option maxHeartbeats 4000000 in
theorem wX3_note_43 {l : Launch} {D : va_G} {cI cZ cC cG cB : ClassId} {ad : Nat → Nat} {a : Program × Env × State × MethodId} {b : Array Value × List Frame × Method × Code × (State → Prop) × Nat} {A : Nat → Prop} (K : KS (GS l 2 60 D cI cZ cC cG cB ad a b A) cX3_note RX3 wsX3_note none) (hn : x_n (GS l 2 60 D cI cZ cC cG cB ad a b A) = 5) {res : (Int32 × St)} (hR : HRv (GS l 2 60 D cI cZ cC cG cB ad a b A) cX3_note res) : ∀ (v1 : Int32), ∀ (v2 : Int32), ∀ (v3 : Int32), ∀ (v4 : Int32), ∀ (σ : St), mX3_note_43 v1 v2 v3 v4 σ = some res → Wk (GS l 2 60 D cI cZ cC cG cB ad a b A) 43 [(0, .ref (ad 26)), (1, .int v1), (2, .int v2), (3, .int v3), (4, .int v4)] [] σ := by
  intro v1 v2 v3 v4 σ h
  unfold mX3_note_43 at h
  refine k_aload_n K dX3_note_43 0 rfl ?_
  refine k_get K 26 3 8 iX3_note_X3 (Nat.le_of_ble_eq_true rfl) ((mS_26 cI cZ cC cG cB ad) _) rfl (by decide) fX3_note_30 rfl dX3_note_44 ?_
  refine k_aload_n K dX3_note_47 0 rfl ?_
  refine k_get K 26 3 1 iX3_note_X3 (Nat.le_of_ble_eq_true rfl) ((mS_26 cI cZ cC cG cB ad) _) rfl (by decide) fX3_note_46 rfl dX3_note_48 ?_
  refine k_iload_n K dX3_note_51 1 rfl ?_
  obtain ⟨g1, h⟩ := gd_some h
  have h := lt_some h
  refine k_ist K 33 0 (Nat.le_of_ble_eq_true rfl) (mS_33 cI cZ cC cG cB ad) rfl g1 dX3_note_52 ?_
  refine k_aload_n K dX3_note_53 0 rfl ?_
  refine k_get K 26 3 9 iX3_note_X3 (Nat.le_of_ble_eq_true rfl) ((mS_26 cI cZ cC cG cB ad) _) rfl (by decide) fX3_note_33 rfl dX3_note_54 ?_
  refine k_aload_n K dX3_note_57 0 rfl ?_
  refine k_get K 26 3 1 iX3_note_X3 (Nat.le_of_ble_eq_true rfl) ((mS_26 cI cZ cC cG cB ad) _) rfl (by decide) fX3_note_46 rfl dX3_note_58 ?_
  refine k_iload_n K dX3_note_61 2 rfl ?_
  obtain ⟨g3, h⟩ := gd_some h
  have h := lt_some h
  refine k_ist K 34 0 (Nat.le_of_ble_eq_true rfl) (mS_34 cI cZ cC cG cB ad) rfl g3 dX3_note_62 ?_
  refine k_aload_n K dX3_note_63 0 rfl ?_
  refine k_get K 26 3 10 iX3_note_X3 (Nat.le_of_ble_eq_true rfl) ((mS_26 cI cZ cC cG cB ad) _) rfl (by decide) fX3_note_36 rfl dX3_note_64 ?_
  refine k_aload_n K dX3_note_67 0 rfl ?_
  refine k_get K 26 3 1 iX3_note_X3 (Nat.le_of_ble_eq_true rfl) ((mS_26 cI cZ cC cG cB ad) _) rfl (by decide) fX3_note_46 rfl dX3_note_68 ?_
  refine k_iload_n K dX3_note_71 3 rfl ?_
  obtain ⟨g5, h⟩ := gd_some h
  have h := lt_some h
  refine k_ist K 35 0 (Nat.le_of_ble_eq_true rfl) (mS_35 cI cZ cC cG cB ad) rfl g5 dX3_note_72 ?_
  refine k_aload_n K dX3_note_73 0 rfl ?_
  refine k_get K 26 3 11 iX3_note_X3 (Nat.le_of_ble_eq_true rfl) ((mS_26 cI cZ cC cG cB ad) _) rfl (by decide) fX3_note_39 rfl dX3_note_74 ?_
  refine k_aload_n K dX3_note_77 0 rfl ?_
  refine k_get K 26 3 1 iX3_note_X3 (Nat.le_of_ble_eq_true rfl) ((mS_26 cI cZ cC cG cB ad) _) rfl (by decide) fX3_note_46 rfl dX3_note_78 ?_
  refine k_iload K dX3_note_81 4 rfl ?_
  obtain ⟨g7, h⟩ := gd_some h
  have h := lt_some h
  refine k_ist K 36 0 (Nat.le_of_ble_eq_true rfl) (mS_36 cI cZ cC cG cB ad) rfl g7 dX3_note_83 ?_
  refine k_aload_n K dX3_note_84 0 rfl ?_
  refine k_dup K dX3_note_85 rfl ?_
  refine k_get K 26 3 1 iX3_note_X3 (Nat.le_of_ble_eq_true rfl) ((mS_26 cI cZ cC cG cB ad) _) rfl (by decide) fX3_note_46 rfl dX3_note_86 ?_
  refine k_iconst (x := 1) K dX3_note_89 (by decide) ?_
  refine k_iadd K dX3_note_90 ?_
  have h := lt_some h
  refine k_putI K 26 3 1 tyX3 tyX3_ok nmX3 iX3_note_X3 (Nat.le_of_ble_eq_true rfl) ((mS_26 cI cZ cC cG cB ad) _) rfl (by decide) fX3_note_46 rfl (by decide +kernel) (Nat.le_of_ble_eq_true rfl) (pS_26_1 cI cZ cC cG cB ad _ _) dX3_note_91 ?_
  exact ret_v hR h dX3_note_94
set_option maxRecDepth 100000 in
set_option maxHeartbeats 4000000 in
theorem ctX3_note {l : Launch} {D : va_G} {cI cZ cC cG cB : ClassId} {ad : Nat → Nat} {v1 : Int32} {v2 : Int32} {v3 : Int32} {v4 : Int32} {σ : St} {res : (Int32 × St)} (h : mX3_note v1 v2 v3 v4 σ = some res) : Cv l yX3_note wsX3_note 2 60 D vwCl (tysS cI cZ cC cG cB) nwS (mkS cI cZ cC cG cB ad) ad 75 [.ref (ad 26), .int v1, .int v2, .int v3, .int v4] σ res := by
  refine c_void (cc := cX3_note) (maxL := 5) (by decide) rfl (Nat.le_of_ble_eq_true rfl) fun a b hn K hR => ?_
  unfold mX3_note at h
  have K : KS (GS l 2 60 D cI cZ cC cG cB ad a b (w_A ad 75)) cX3_note RX3 wsX3_note none := K
  have hn : x_n (GS l 2 60 D cI cZ cC cG cB ad a b (w_A ad 75)) = 5 := hn
  refine k_sub [0, 1, 2, 3, 4] rfl ?_
  refine k_aload_n K dX3_note_0 0 rfl ?_
  refine k_get K 26 3 1 iX3_note_X3 (Nat.le_of_ble_eq_true rfl) ((mS_26 cI cZ cC cG cB ad) _) rfl (by decide) fX3_note_46 rfl dX3_note_1 ?_
  refine k_bipush (x := 10) K dX3_note_4 (by decide) ?_
  refine k_icmp_lt (tgt := 43) K dX3_note_6 (by decide) (fun q => ?_) (fun q => ?_)
  · have h := if_t q h
    exact k_sub [0, 1, 2, 3, 4] rfl (wX3_note_43 K hn hR _ _ _ _ _ h)
  · have h := if_f q h
    refine k_aload_n K dX3_note_9 0 rfl ?_
    refine k_get K 26 3 8 iX3_note_X3 (Nat.le_of_ble_eq_true rfl) ((mS_26 cI cZ cC cG cB ad) _) rfl (by decide) fX3_note_30 rfl dX3_note_10 ?_
    obtain ⟨⟨r10, s11⟩, e12, h⟩ := bd_some h
    dsimp only at h
    refine k_callSv K (ctX3_loseOldest (Nat.le_of_ble_eq_true rfl) (mS_33 cI cZ cC cG cB ad) e12) (va_cwS 1 K.ts gX3_note_X3_loseOldest rfl rfl rfl hSX3_loseOldest ⟨Nat.le_of_ble_eq_true rfl, Nat.le_of_ble_eq_true rfl⟩) rfl rfl (Nat.le_of_ble_eq_true rfl) dX3_note_13 ?_
    refine k_aload_n K dX3_note_16 0 rfl ?_
    refine k_get K 26 3 9 iX3_note_X3 (Nat.le_of_ble_eq_true rfl) ((mS_26 cI cZ cC cG cB ad) _) rfl (by decide) fX3_note_33 rfl dX3_note_17 ?_
    obtain ⟨⟨r13, s14⟩, e15, h⟩ := bd_some h
    dsimp only at h
    refine k_callSv K (ctX3_loseOldest (Nat.le_of_ble_eq_true rfl) (mS_34 cI cZ cC cG cB ad) e15) (va_cwS 1 K.ts gX3_note_X3_loseOldest rfl rfl rfl hSX3_loseOldest ⟨Nat.le_of_ble_eq_true rfl, Nat.le_of_ble_eq_true rfl⟩) rfl rfl (Nat.le_of_ble_eq_true rfl) dX3_note_20 ?_
    refine k_aload_n K dX3_note_23 0 rfl ?_
    refine k_get K 26 3 10 iX3_note_X3 (Nat.le_of_ble_eq_true rfl) ((mS_26 cI cZ cC cG cB ad) _) rfl (by decide) fX3_note_36 rfl dX3_note_24 ?_
    obtain ⟨⟨r16, s17⟩, e18, h⟩ := bd_some h
    dsimp only at h
    refine k_callSv K (ctX3_loseOldest (Nat.le_of_ble_eq_true rfl) (mS_35 cI cZ cC cG cB ad) e18) (va_cwS 1 K.ts gX3_note_X3_loseOldest rfl rfl rfl hSX3_loseOldest ⟨Nat.le_of_ble_eq_true rfl, Nat.le_of_ble_eq_true rfl⟩) rfl rfl (Nat.le_of_ble_eq_true rfl) dX3_note_27 ?_
    refine k_aload_n K dX3_note_30 0 rfl ?_
    refine k_get K 26 3 11 iX3_note_X3 (Nat.le_of_ble_eq_true rfl) ((mS_26 cI cZ cC cG cB ad) _) rfl (by decide) fX3_note_39 rfl dX3_note_31 ?_
    obtain ⟨⟨r19, s20⟩, e21, h⟩ := bd_some h
    dsimp only at h
    refine k_callSv K (ctX3_loseOldest (Nat.le_of_ble_eq_true rfl) (mS_36 cI cZ cC cG cB ad) e21) (va_cwS 1 K.ts gX3_note_X3_loseOldest rfl rfl rfl hSX3_loseOldest ⟨Nat.le_of_ble_eq_true rfl, Nat.le_of_ble_eq_true rfl⟩) rfl rfl (Nat.le_of_ble_eq_true rfl) dX3_note_34 ?_
    refine k_aload_n K dX3_note_37 0 rfl ?_
    refine k_bipush (x := 9) K dX3_note_38 (by decide) ?_
    have h := lt_some h
    refine k_putI K 26 3 1 tyX3 tyX3_ok nmX3 iX3_note_X3 (Nat.le_of_ble_eq_true rfl) ((mS_26 cI cZ cC cG cB ad) _) rfl (by decide) fX3_note_46 rfl (by decide +kernel) (Nat.le_of_ble_eq_true rfl) (pS_26_1 cI cZ cC cG cB ad _ _) dX3_note_40 ?_
    exact k_sub [0, 1, 2, 3, 4] rfl (wX3_note_43 K hn hR _ _ _ _ _ h)

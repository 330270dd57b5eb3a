/-! walks, by program -/
theorem hSX12_in : yX12_in.cls ≠ "java/lang/invoke/MethodHandle" ∧ yX12_in.cls ≠ "java/lang/invoke/VarHandle" ∧ (parseMethodDescriptor yX12_in.desc).map (fun d => d.parameters.length) = some 3 := by decide +kernel
theorem hSX12_has : yX12_has.cls ≠ "java/lang/invoke/MethodHandle" ∧ yX12_has.cls ≠ "java/lang/invoke/VarHandle" ∧ (parseMethodDescriptor yX12_has.desc).map (fun d => d.parameters.length) = some 2 := by decide +kernel
theorem hSX12_bits : yX12_bits.cls ≠ "java/lang/invoke/MethodHandle" ∧ yX12_bits.cls ≠ "java/lang/invoke/VarHandle" ∧ (parseMethodDescriptor yX12_bits.desc).map (fun d => d.parameters.length) = some 1 := by decide +kernel
theorem hVX12_type : yX12_type.cls = RX12 ∧ yX12_type.cls ≠ "java/lang/invoke/MethodHandle" ∧ yX12_type.cls ≠ "java/lang/invoke/VarHandle" ∧ (parseMethodDescriptor yX12_type.desc).map (fun d => d.parameters.length) = some 1 := by decide +kernel
theorem hVX12_clear : yX12_clear.cls = RX12 ∧ yX12_clear.cls ≠ "java/lang/invoke/MethodHandle" ∧ yX12_clear.cls ≠ "java/lang/invoke/VarHandle" ∧ (parseMethodDescriptor yX12_clear.desc).map (fun d => d.parameters.length) = some 0 := by decide +kernel
theorem hSX12_sort : yX12_sort.cls ≠ "java/lang/invoke/MethodHandle" ∧ yX12_sort.cls ≠ "java/lang/invoke/VarHandle" ∧ (parseMethodDescriptor yX12_sort.desc).map (fun d => d.parameters.length) = some 1 := by decide +kernel
theorem hVX12_skip : yX12_skip.cls = RX12 ∧ yX12_skip.cls ≠ "java/lang/invoke/MethodHandle" ∧ yX12_skip.cls ≠ "java/lang/invoke/VarHandle" ∧ (parseMethodDescriptor yX12_skip.desc).map (fun d => d.parameters.length) = some 0 := by decide +kernel
theorem hVX12_token : yX12_token.cls = RX12 ∧ yX12_token.cls ≠ "java/lang/invoke/MethodHandle" ∧ yX12_token.cls ≠ "java/lang/invoke/VarHandle" ∧ (parseMethodDescriptor yX12_token.desc).map (fun d => d.parameters.length) = some 0 := by decide +kernel
theorem hVX12_number : yX12_number.cls = RX12 ∧ yX12_number.cls ≠ "java/lang/invoke/MethodHandle" ∧ yX12_number.cls ≠ "java/lang/invoke/VarHandle" ∧ (parseMethodDescriptor yX12_number.desc).map (fun d => d.parameters.length) = some 2 := by decide +kernel
theorem hVX12_reads : yX12_reads.cls = RX12 ∧ yX12_reads.cls ≠ "java/lang/invoke/MethodHandle" ∧ yX12_reads.cls ≠ "java/lang/invoke/VarHandle" ∧ (parseMethodDescriptor yX12_reads.desc).map (fun d => d.parameters.length) = some 3 := by decide +kernel
theorem hVX12_readsHeights : yX12_readsHeights.cls = RX12 ∧ yX12_readsHeights.cls ≠ "java/lang/invoke/MethodHandle" ∧ yX12_readsHeights.cls ≠ "java/lang/invoke/VarHandle" ∧ (parseMethodDescriptor yX12_readsHeights.desc).map (fun d => d.parameters.length) = some 0 := by decide +kernel
theorem hVX12_readBit : yX12_readBit.cls = RX12 ∧ yX12_readBit.cls ≠ "java/lang/invoke/MethodHandle" ∧ yX12_readBit.cls ≠ "java/lang/invoke/VarHandle" ∧ (parseMethodDescriptor yX12_readBit.desc).map (fun d => d.parameters.length) = some 0 := by decide +kernel
theorem hVX12_readsCell : yX12_readsCell.cls = RX12 ∧ yX12_readsCell.cls ≠ "java/lang/invoke/MethodHandle" ∧ yX12_readsCell.cls ≠ "java/lang/invoke/VarHandle" ∧ (parseMethodDescriptor yX12_readsCell.desc).map (fun d => d.parameters.length) = some 0 := by decide +kernel
theorem hVX12_readsKerb : yX12_readsKerb.cls = RX12 ∧ yX12_readsKerb.cls ≠ "java/lang/invoke/MethodHandle" ∧ yX12_readsKerb.cls ≠ "java/lang/invoke/VarHandle" ∧ (parseMethodDescriptor yX12_readsKerb.desc).map (fun d => d.parameters.length) = some 0 := by decide +kernel
theorem hVX12_readsGrating : yX12_readsGrating.cls = RX12 ∧ yX12_readsGrating.cls ≠ "java/lang/invoke/MethodHandle" ∧ yX12_readsGrating.cls ≠ "java/lang/invoke/VarHandle" ∧ (parseMethodDescriptor yX12_readsGrating.desc).map (fun d => d.parameters.length) = some 0 := by decide +kernel
theorem hVX12_readsKind : yX12_readsKind.cls = RX12 ∧ yX12_readsKind.cls ≠ "java/lang/invoke/MethodHandle" ∧ yX12_readsKind.cls ≠ "java/lang/invoke/VarHandle" ∧ (parseMethodDescriptor yX12_readsKind.desc).map (fun d => d.parameters.length) = some 0 := by decide +kernel
theorem hVX12_readsItem : yX12_readsItem.cls = RX12 ∧ yX12_readsItem.cls ≠ "java/lang/invoke/MethodHandle" ∧ yX12_readsItem.cls ≠ "java/lang/invoke/VarHandle" ∧ (parseMethodDescriptor yX12_readsItem.desc).map (fun d => d.parameters.length) = some 0 := by decide +kernel
theorem hVX12_fault : yX12_fault.cls = RX12 ∧ yX12_fault.cls ≠ "java/lang/invoke/MethodHandle" ∧ yX12_fault.cls ≠ "java/lang/invoke/VarHandle" ∧ (parseMethodDescriptor yX12_fault.desc).map (fun d => d.parameters.length) = some 0 := by decide +kernel
theorem hVX12_city : yX12_city.cls = RX12 ∧ yX12_city.cls ≠ "java/lang/invoke/MethodHandle" ∧ yX12_city.cls ≠ "java/lang/invoke/VarHandle" ∧ (parseMethodDescriptor yX12_city.desc).map (fun d => d.parameters.length) = some 0 := by decide +kernel
theorem hVX12_isCell : yX12_isCell.cls = RX12 ∧ yX12_isCell.cls ≠ "java/lang/invoke/MethodHandle" ∧ yX12_isCell.cls ≠ "java/lang/invoke/VarHandle" ∧ (parseMethodDescriptor yX12_isCell.desc).map (fun d => d.parameters.length) = some 2 := by decide +kernel
theorem hVX12_bit : yX12_bit.cls = RX12 ∧ yX12_bit.cls ≠ "java/lang/invoke/MethodHandle" ∧ yX12_bit.cls ≠ "java/lang/invoke/VarHandle" ∧ (parseMethodDescriptor yX12_bit.desc).map (fun d => d.parameters.length) = some 2 := by decide +kernel
theorem hVX12_cells : yX12_cells.cls = RX12 ∧ yX12_cells.cls ≠ "java/lang/invoke/MethodHandle" ∧ yX12_cells.cls ≠ "java/lang/invoke/VarHandle" ∧ (parseMethodDescriptor yX12_cells.desc).map (fun d => d.parameters.length) = some 0 := by decide +kernel
theorem hVX12_pairOf : yX12_pairOf.cls = RX12 ∧ yX12_pairOf.cls ≠ "java/lang/invoke/MethodHandle" ∧ yX12_pairOf.cls ≠ "java/lang/invoke/VarHandle" ∧ (parseMethodDescriptor yX12_pairOf.desc).map (fun d => d.parameters.length) = some 1 := by decide +kernel
theorem hVX12_isPair : yX12_isPair.cls = RX12 ∧ yX12_isPair.cls ≠ "java/lang/invoke/MethodHandle" ∧ yX12_isPair.cls ≠ "java/lang/invoke/VarHandle" ∧ (parseMethodDescriptor yX12_isPair.desc).map (fun d => d.parameters.length) = some 1 := by decide +kernel
theorem hVX12_bitOf : yX12_bitOf.cls = RX12 ∧ yX12_bitOf.cls ≠ "java/lang/invoke/MethodHandle" ∧ yX12_bitOf.cls ≠ "java/lang/invoke/VarHandle" ∧ (parseMethodDescriptor yX12_bitOf.desc).map (fun d => d.parameters.length) = some 1 := by decide +kernel
theorem hVX12_isKind : yX12_isKind.cls = RX12 ∧ yX12_isKind.cls ≠ "java/lang/invoke/MethodHandle" ∧ yX12_isKind.cls ≠ "java/lang/invoke/VarHandle" ∧ (parseMethodDescriptor yX12_isKind.desc).map (fun d => d.parameters.length) = some 1 := by decide +kernel
theorem hVX12_isPlank : yX12_isPlank.cls = RX12 ∧ yX12_isPlank.cls ≠ "java/lang/invoke/MethodHandle" ∧ yX12_isPlank.cls ≠ "java/lang/invoke/VarHandle" ∧ (parseMethodDescriptor yX12_isPlank.desc).map (fun d => d.parameters.length) = some 1 := by decide +kernel
theorem hVX12_setPlank : yX12_setPlank.cls = RX12 ∧ yX12_setPlank.cls ≠ "java/lang/invoke/MethodHandle" ∧ yX12_setPlank.cls ≠ "java/lang/invoke/VarHandle" ∧ (parseMethodDescriptor yX12_setPlank.desc).map (fun d => d.parameters.length) = some 1 := by decide +kernel
theorem hVX12_liesOn : yX12_liesOn.cls = RX12 ∧ yX12_liesOn.cls ≠ "java/lang/invoke/MethodHandle" ∧ yX12_liesOn.cls ≠ "java/lang/invoke/VarHandle" ∧ (parseMethodDescriptor yX12_liesOn.desc).map (fun d => d.parameters.length) = some 1 := by decide +kernel
theorem hVX12_isEdge : yX12_isEdge.cls = RX12 ∧ yX12_isEdge.cls ≠ "java/lang/invoke/MethodHandle" ∧ yX12_isEdge.cls ≠ "java/lang/invoke/VarHandle" ∧ (parseMethodDescriptor yX12_isEdge.desc).map (fun d => d.parameters.length) = some 2 := by decide +kernel
theorem hVX12_beside : yX12_beside.cls = RX12 ∧ yX12_beside.cls ≠ "java/lang/invoke/MethodHandle" ∧ yX12_beside.cls ≠ "java/lang/invoke/VarHandle" ∧ (parseMethodDescriptor yX12_beside.desc).map (fun d => d.parameters.length) = some 2 := by decide +kernel
theorem hVX12_sideOf : yX12_sideOf.cls = RX12 ∧ yX12_sideOf.cls ≠ "java/lang/invoke/MethodHandle" ∧ yX12_sideOf.cls ≠ "java/lang/invoke/VarHandle" ∧ (parseMethodDescriptor yX12_sideOf.desc).map (fun d => d.parameters.length) = some 2 := by decide +kernel
theorem hVX12_isKerb : yX12_isKerb.cls = RX12 ∧ yX12_isKerb.cls ≠ "java/lang/invoke/MethodHandle" ∧ yX12_isKerb.cls ≠ "java/lang/invoke/VarHandle" ∧ (parseMethodDescriptor yX12_isKerb.desc).map (fun d => d.parameters.length) = some 1 := by decide +kernel
theorem hVX12_isShut : yX12_isShut.cls = RX12 ∧ yX12_isShut.cls ≠ "java/lang/invoke/MethodHandle" ∧ yX12_isShut.cls ≠ "java/lang/invoke/VarHandle" ∧ (parseMethodDescriptor yX12_isShut.desc).map (fun d => d.parameters.length) = some 2 := by decide +kernel
theorem hVX12_shutWays : yX12_shutWays.cls = RX12 ∧ yX12_shutWays.cls ≠ "java/lang/invoke/MethodHandle" ∧ yX12_shutWays.cls ≠ "java/lang/invoke/VarHandle" ∧ (parseMethodDescriptor yX12_shutWays.desc).map (fun d => d.parameters.length) = some 1 := by decide +kernel
theorem hVX12_wayFrom : yX12_wayFrom.cls = RX12 ∧ yX12_wayFrom.cls ≠ "java/lang/invoke/MethodHandle" ∧ yX12_wayFrom.cls ≠ "java/lang/invoke/VarHandle" ∧ (parseMethodDescriptor yX12_wayFrom.desc).map (fun d => d.parameters.length) = some 3 := by decide +kernel
theorem hVX12_roll : yX12_roll.cls = RX12 ∧ yX12_roll.cls ≠ "java/lang/invoke/MethodHandle" ∧ yX12_roll.cls ≠ "java/lang/invoke/VarHandle" ∧ (parseMethodDescriptor yX12_roll.desc).map (fun d => d.parameters.length) = some 3 := by decide +kernel
theorem hVX12_rollKind : yX12_rollKind.cls = RX12 ∧ yX12_rollKind.cls ≠ "java/lang/invoke/MethodHandle" ∧ yX12_rollKind.cls ≠ "java/lang/invoke/VarHandle" ∧ (parseMethodDescriptor yX12_rollKind.desc).map (fun d => d.parameters.length) = some 2 := by decide +kernel
theorem hVX12_toldEnd : yX12_toldEnd.cls = RX12 ∧ yX12_toldEnd.cls ≠ "java/lang/invoke/MethodHandle" ∧ yX12_toldEnd.cls ≠ "java/lang/invoke/VarHandle" ∧ (parseMethodDescriptor yX12_toldEnd.desc).map (fun d => d.parameters.length) = some 0 := by decide +kernel
theorem hVX12_endOf : yX12_endOf.cls = RX12 ∧ yX12_endOf.cls ≠ "java/lang/invoke/MethodHandle" ∧ yX12_endOf.cls ≠ "java/lang/invoke/VarHandle" ∧ (parseMethodDescriptor yX12_endOf.desc).map (fun d => d.parameters.length) = some 2 := by decide +kernel
theorem hVX12_cell : yX12_cell.cls = RX12 ∧ yX12_cell.cls ≠ "java/lang/invoke/MethodHandle" ∧ yX12_cell.cls ≠ "java/lang/invoke/VarHandle" ∧ (parseMethodDescriptor yX12_cell.desc).map (fun d => d.parameters.length) = some 3 := by decide +kernel
theorem hVX12_kind : yX12_kind.cls = RX12 ∧ yX12_kind.cls ≠ "java/lang/invoke/MethodHandle" ∧ yX12_kind.cls ≠ "java/lang/invoke/VarHandle" ∧ (parseMethodDescriptor yX12_kind.desc).map (fun d => d.parameters.length) = some 2 := by decide +kernel
theorem hVX12_keepPast : yX12_keepPast.cls = RX12 ∧ yX12_keepPast.cls ≠ "java/lang/invoke/MethodHandle" ∧ yX12_keepPast.cls ≠ "java/lang/invoke/VarHandle" ∧ (parseMethodDescriptor yX12_keepPast.desc).map (fun d => d.parameters.length) = some 0 := by decide +kernel
theorem hVX12_lying : yX12_lying.cls = RX12 ∧ yX12_lying.cls ≠ "java/lang/invoke/MethodHandle" ∧ yX12_lying.cls ≠ "java/lang/invoke/VarHandle" ∧ (parseMethodDescriptor yX12_lying.desc).map (fun d => d.parameters.length) = some 0 := by decide +kernel
theorem hVX12_sumFrom : yX12_sumFrom.cls = RX12 ∧ yX12_sumFrom.cls ≠ "java/lang/invoke/MethodHandle" ∧ yX12_sumFrom.cls ≠ "java/lang/invoke/VarHandle" ∧ (parseMethodDescriptor yX12_sumFrom.desc).map (fun d => d.parameters.length) = some 1 := by decide +kernel
theorem hVX12_lets : yX12_lets.cls = RX12 ∧ yX12_lets.cls ≠ "java/lang/invoke/MethodHandle" ∧ yX12_lets.cls ≠ "java/lang/invoke/VarHandle" ∧ (parseMethodDescriptor yX12_lets.desc).map (fun d => d.parameters.length) = some 3 := by decide +kernel
theorem hVX12_planksNow : yX12_planksNow.cls = RX12 ∧ yX12_planksNow.cls ≠ "java/lang/invoke/MethodHandle" ∧ yX12_planksNow.cls ≠ "java/lang/invoke/VarHandle" ∧ (parseMethodDescriptor yX12_planksNow.desc).map (fun d => d.parameters.length) = some 0 := by decide +kernel
theorem hVX12_sets : yX12_sets.cls = RX12 ∧ yX12_sets.cls ≠ "java/lang/invoke/MethodHandle" ∧ yX12_sets.cls ≠ "java/lang/invoke/VarHandle" ∧ (parseMethodDescriptor yX12_sets.desc).map (fun d => d.parameters.length) = some 3 := by decide +kernel
theorem hVX12_takes : yX12_takes.cls = RX12 ∧ yX12_takes.cls ≠ "java/lang/invoke/MethodHandle" ∧ yX12_takes.cls ≠ "java/lang/invoke/VarHandle" ∧ (parseMethodDescriptor yX12_takes.desc).map (fun d => d.parameters.length) = some 3 := by decide +kernel
theorem hVX12_cobble : yX12_cobble.cls = RX12 ∧ yX12_cobble.cls ≠ "java/lang/invoke/MethodHandle" ∧ yX12_cobble.cls ≠ "java/lang/invoke/VarHandle" ∧ (parseMethodDescriptor yX12_cobble.desc).map (fun d => d.parameters.length) = some 3 := by decide +kernel
theorem hVX12_sweep : yX12_sweep.cls = RX12 ∧ yX12_sweep.cls ≠ "java/lang/invoke/MethodHandle" ∧ yX12_sweep.cls ≠ "java/lang/invoke/VarHandle" ∧ (parseMethodDescriptor yX12_sweep.desc).map (fun d => d.parameters.length) = some 2 := by decide +kernel
theorem hVX12_undo : yX12_undo.cls = RX12 ∧ yX12_undo.cls ≠ "java/lang/invoke/MethodHandle" ∧ yX12_undo.cls ≠ "java/lang/invoke/VarHandle" ∧ (parseMethodDescriptor yX12_undo.desc).map (fun d => d.parameters.length) = some 0 := by decide +kernel
theorem hVX12_isSo : yX12_isSo.cls = RX12 ∧ yX12_isSo.cls ≠ "java/lang/invoke/MethodHandle" ∧ yX12_isSo.cls ≠ "java/lang/invoke/VarHandle" ∧ (parseMethodDescriptor yX12_isSo.desc).map (fun d => d.parameters.length) = some 0 := by decide +kernel
theorem hVX12_now : yX12_now.cls = RX12 ∧ yX12_now.cls ≠ "java/lang/invoke/MethodHandle" ∧ yX12_now.cls ≠ "java/lang/invoke/VarHandle" ∧ (parseMethodDescriptor yX12_now.desc).map (fun d => d.parameters.length) = some 1 := by decide +kernel
theorem hVX12_end : yX12_end.cls = RX12 ∧ yX12_end.cls ≠ "java/lang/invoke/MethodHandle" ∧ yX12_end.cls ≠ "java/lang/invoke/VarHandle" ∧ (parseMethodDescriptor yX12_end.desc).map (fun d => d.parameters.length) = some 4 := by decide +kernel
theorem hVX12_doorsOf : yX12_doorsOf.cls = RX12 ∧ yX12_doorsOf.cls ≠ "java/lang/invoke/MethodHandle" ∧ yX12_doorsOf.cls ≠ "java/lang/invoke/VarHandle" ∧ (parseMethodDescriptor yX12_doorsOf.desc).map (fun d => d.parameters.length) = some 2 := by decide +kernel
theorem hVX12_doors : yX12_doors.cls = RX12 ∧ yX12_doors.cls ≠ "java/lang/invoke/MethodHandle" ∧ yX12_doors.cls ≠ "java/lang/invoke/VarHandle" ∧ (parseMethodDescriptor yX12_doors.desc).map (fun d => d.parameters.length) = some 3 := by decide +kernel
theorem hVX12_isFree : yX12_isFree.cls = RX12 ∧ yX12_isFree.cls ≠ "java/lang/invoke/MethodHandle" ∧ yX12_isFree.cls ≠ "java/lang/invoke/VarHandle" ∧ (parseMethodDescriptor yX12_isFree.desc).map (fun d => d.parameters.length) = some 1 := by decide +kernel
theorem hVX12_triesPlanks : yX12_triesPlanks.cls = RX12 ∧ yX12_triesPlanks.cls ≠ "java/lang/invoke/MethodHandle" ∧ yX12_triesPlanks.cls ≠ "java/lang/invoke/VarHandle" ∧ (parseMethodDescriptor yX12_triesPlanks.desc).map (fun d => d.parameters.length) = some 4 := by decide +kernel
theorem hVX12_toldSide : yX12_toldSide.cls = RX12 ∧ yX12_toldSide.cls ≠ "java/lang/invoke/MethodHandle" ∧ yX12_toldSide.cls ≠ "java/lang/invoke/VarHandle" ∧ (parseMethodDescriptor yX12_toldSide.desc).map (fun d => d.parameters.length) = some 1 := by decide +kernel
theorem hVX12_planks : yX12_planks.cls = RX12 ∧ yX12_planks.cls ≠ "java/lang/invoke/MethodHandle" ∧ yX12_planks.cls ≠ "java/lang/invoke/VarHandle" ∧ (parseMethodDescriptor yX12_planks.desc).map (fun d => d.parameters.length) = some 4 := by decide +kernel
theorem hVX12_paved : yX12_paved.cls = RX12 ∧ yX12_paved.cls ≠ "java/lang/invoke/MethodHandle" ∧ yX12_paved.cls ≠ "java/lang/invoke/VarHandle" ∧ (parseMethodDescriptor yX12_paved.desc).map (fun d => d.parameters.length) = some 4 := by decide +kernel
theorem hVX12_rain : yX12_rain.cls = RX12 ∧ yX12_rain.cls ≠ "java/lang/invoke/MethodHandle" ∧ yX12_rain.cls ≠ "java/lang/invoke/VarHandle" ∧ (parseMethodDescriptor yX12_rain.desc).map (fun d => d.parameters.length) = some 1 := by decide +kernel
theorem hSX12_divisor : yX12_divisor.cls ≠ "java/lang/invoke/MethodHandle" ∧ yX12_divisor.cls ≠ "java/lang/invoke/VarHandle" ∧ (parseMethodDescriptor yX12_divisor.desc).map (fun d => d.parameters.length) = some 2 := by decide +kernel
theorem hVX12_feet : yX12_feet.cls = RX12 ∧ yX12_feet.cls ≠ "java/lang/invoke/MethodHandle" ∧ yX12_feet.cls ≠ "java/lang/invoke/VarHandle" ∧ (parseMethodDescriptor yX12_feet.desc).map (fun d => d.parameters.length) = some 4 := by decide +kernel
theorem hVX12_apartOf : yX12_apartOf.cls = RX12 ∧ yX12_apartOf.cls ≠ "java/lang/invoke/MethodHandle" ∧ yX12_apartOf.cls ≠ "java/lang/invoke/VarHandle" ∧ (parseMethodDescriptor yX12_apartOf.desc).map (fun d => d.parameters.length) = some 2 := by decide +kernel
theorem hVX12_apart : yX12_apart.cls = RX12 ∧ yX12_apart.cls ≠ "java/lang/invoke/MethodHandle" ∧ yX12_apart.cls ≠ "java/lang/invoke/VarHandle" ∧ (parseMethodDescriptor yX12_apart.desc).map (fun d => d.parameters.length) = some 2 := by decide +kernel
theorem hVX12_tellsAll : yX12_tellsAll.cls = RX12 ∧ yX12_tellsAll.cls ≠ "java/lang/invoke/MethodHandle" ∧ yX12_tellsAll.cls ≠ "java/lang/invoke/VarHandle" ∧ (parseMethodDescriptor yX12_tellsAll.desc).map (fun d => d.parameters.length) = some 2 := by decide +kernel
theorem hVX12_rollsOf : yX12_rollsOf.cls = RX12 ∧ yX12_rollsOf.cls ≠ "java/lang/invoke/MethodHandle" ∧ yX12_rollsOf.cls ≠ "java/lang/invoke/VarHandle" ∧ (parseMethodDescriptor yX12_rollsOf.desc).map (fun d => d.parameters.length) = some 2 := by decide +kernel
theorem hVX12_rolls : yX12_rolls.cls = RX12 ∧ yX12_rolls.cls ≠ "java/lang/invoke/MethodHandle" ∧ yX12_rolls.cls ≠ "java/lang/invoke/VarHandle" ∧ (parseMethodDescriptor yX12_rolls.desc).map (fun d => d.parameters.length) = some 0 := by decide +kernel
theorem hVX12_saw : yX12_saw.cls = RX12 ∧ yX12_saw.cls ≠ "java/lang/invoke/MethodHandle" ∧ yX12_saw.cls ≠ "java/lang/invoke/VarHandle" ∧ (parseMethodDescriptor yX12_saw.desc).map (fun d => d.parameters.length) = some 3 := by decide +kernel
theorem hVX12_forget : yX12_forget.cls = RX12 ∧ yX12_forget.cls ≠ "java/lang/invoke/MethodHandle" ∧ yX12_forget.cls ≠ "java/lang/invoke/VarHandle" ∧ (parseMethodDescriptor yX12_forget.desc).map (fun d => d.parameters.length) = some 0 := by decide +kernel
theorem hVX12_moved : yX12_moved.cls = RX12 ∧ yX12_moved.cls ≠ "java/lang/invoke/MethodHandle" ∧ yX12_moved.cls ≠ "java/lang/invoke/VarHandle" ∧ (parseMethodDescriptor yX12_moved.desc).map (fun d => d.parameters.length) = some 1 := by decide +kernel
theorem hVX12_markOfCell : yX12_markOfCell.cls = RX12 ∧ yX12_markOfCell.cls ≠ "java/lang/invoke/MethodHandle" ∧ yX12_markOfCell.cls ≠ "java/lang/invoke/VarHandle" ∧ (parseMethodDescriptor yX12_markOfCell.desc).map (fun d => d.parameters.length) = some 1 := by decide +kernel
theorem hVX12_markOf : yX12_markOf.cls = RX12 ∧ yX12_markOf.cls ≠ "java/lang/invoke/MethodHandle" ∧ yX12_markOf.cls ≠ "java/lang/invoke/VarHandle" ∧ (parseMethodDescriptor yX12_markOf.desc).map (fun d => d.parameters.length) = some 2 := by decide +kernel
theorem hVX12_mark : yX12_mark.cls = RX12 ∧ yX12_mark.cls ≠ "java/lang/invoke/MethodHandle" ∧ yX12_mark.cls ≠ "java/lang/invoke/VarHandle" ∧ (parseMethodDescriptor yX12_mark.desc).map (fun d => d.parameters.length) = some 3 := by decide +kernel
theorem hVX12_copyRow : yX12_copyRow.cls = RX12 ∧ yX12_copyRow.cls ≠ "java/lang/invoke/MethodHandle" ∧ yX12_copyRow.cls ≠ "java/lang/invoke/VarHandle" ∧ (parseMethodDescriptor yX12_copyRow.desc).map (fun d => d.parameters.length) = some 2 := by decide +kernel
theorem hVX12_keep : yX12_keep.cls = RX12 ∧ yX12_keep.cls ≠ "java/lang/invoke/MethodHandle" ∧ yX12_keep.cls ≠ "java/lang/invoke/VarHandle" ∧ (parseMethodDescriptor yX12_keep.desc).map (fun d => d.parameters.length) = some 1 := by decide +kernel
theorem hVX12_back : yX12_back.cls = RX12 ∧ yX12_back.cls ≠ "java/lang/invoke/MethodHandle" ∧ yX12_back.cls ≠ "java/lang/invoke/VarHandle" ∧ (parseMethodDescriptor yX12_back.desc).map (fun d => d.parameters.length) = some 1 := by decide +kernel
theorem hVX12_count : yX12_count.cls = RX12 ∧ yX12_count.cls ≠ "java/lang/invoke/MethodHandle" ∧ yX12_count.cls ≠ "java/lang/invoke/VarHandle" ∧ (parseMethodDescriptor yX12_count.desc).map (fun d => d.parameters.length) = some 1 := by decide +kernel
theorem hVX12_trace : yX12_trace.cls = RX12 ∧ yX12_trace.cls ≠ "java/lang/invoke/MethodHandle" ∧ yX12_trace.cls ≠ "java/lang/invoke/VarHandle" ∧ (parseMethodDescriptor yX12_trace.desc).map (fun d => d.parameters.length) = some 0 := by decide +kernel
-- X12_in (0, 0)
set_option maxRecDepth 100000 in
set_option maxHeartbeats 4000000 in
theorem ctX12_in {l : Launch} {D : va_G} {cI cZ : ClassId} {ad : Nat → Nat} {v0 : Int64} {v2 : Int64} {v4 : Int64} {σ : St} {res : (Int32 × St)} (h : mX12_in v0 v2 v4 σ = some res) : Ci l yX12_in wsX12_in 0 0 D vwCl (tysM cI cZ) nwM (mkM cI cZ ad) ad 17 [.long v0, .long v2, .long v4] σ res := by
  refine c_bool (cc := cX12_in) (maxL := 6) (by decide) rfl (Nat.le_of_ble_eq_true rfl) fun a b hn K hR => ?_
  unfold mX12_in at h
  have K : KS (GM l 0 0 D cI cZ ad a b (w_A ad 17)) cX12_in RX12 wsX12_in (some .boolean) := K
  have hn : x_n (GM l 0 0 D cI cZ ad a b (w_A ad 17)) = 6 := hn
  refine k_sub [0, 1, 2] rfl ?_
  refine k_lload_n K dX12_in_0 0 rfl ?_
  refine k_lload_n K dX12_in_1 1 rfl ?_
  refine k_lcmp K dX12_in_2 ?_
  refine k_if_lt (tgt := 17) K dX12_in_3 (by decide) (fun q => ?_) (fun q => ?_)
  · have h := if_t q h
    refine k_iconst (x := 0) K dX12_in_17 (by decide) ?_
    exact ret_i hR h dX12_in_18 zb_0
  · have h := if_f q h
    refine k_lload_n K dX12_in_6 0 rfl ?_
    refine k_lload K dX12_in_7 2 rfl ?_
    refine k_lcmp K dX12_in_9 ?_
    refine k_if_gt (tgt := 17) K dX12_in_10 (by decide) (fun q => ?_) (fun q => ?_)
    · have h := if_t q h
      refine k_iconst (x := 0) K dX12_in_17 (by decide) ?_
      exact ret_i hR h dX12_in_18 zb_0
    · have h := if_f q h
      refine k_iconst (x := 1) K dX12_in_13 (by decide) ?_
      refine k_goto (tgt := 18) K dX12_in_14 (by decide) ?_
      exact ret_i hR h dX12_in_18 zb_1
-- X12_has (0, 0)
set_option maxRecDepth 100000 in
set_option maxHeartbeats 4000000 in
theorem ctX12_has {l : Launch} {D : va_G} {cI cZ : ClassId} {ad : Nat → Nat} {v0 : Int32} {v1 : Int32} {σ : St} {res : (Int32 × St)} (h : mX12_has v0 v1 σ = some res) : Ci l yX12_has wsX12_has 0 0 D vwCl (tysM cI cZ) nwM (mkM cI cZ ad) ad 17 [.int v0, .int v1] σ res := by
  refine c_bool (cc := cX12_has) (maxL := 2) (by decide) rfl (Nat.le_of_ble_eq_true rfl) fun a b hn K hR => ?_
  unfold mX12_has at h
  have K : KS (GM l 0 0 D cI cZ ad a b (w_A ad 17)) cX12_has RX12 wsX12_has (some .boolean) := K
  have hn : x_n (GM l 0 0 D cI cZ ad a b (w_A ad 17)) = 2 := hn
  refine k_sub [0, 1] rfl ?_
  refine k_iload_n K dX12_has_0 0 rfl ?_
  refine k_iload_n K dX12_has_1 1 rfl ?_
  refine k_ishr K dX12_has_2 ?_
  refine k_iconst (x := 1) K dX12_has_3 (by decide) ?_
  refine k_iand K dX12_has_4 ?_
  refine k_iconst (x := 1) K dX12_has_5 (by decide) ?_
  refine k_icmp_ne (tgt := 13) K dX12_has_6 (by decide) (fun q => ?_) (fun q => ?_)
  · have h := if_f q h
    refine k_iconst (x := 0) K dX12_has_13 (by decide) ?_
    exact ret_i hR h dX12_has_14 zb_0
  · have h := if_t q h
    refine k_iconst (x := 1) K dX12_has_9 (by decide) ?_
    refine k_goto (tgt := 14) K dX12_has_10 (by decide) ?_
    exact ret_i hR h dX12_has_14 zb_1
-- X12_bits (0, 0)
set_option maxRecDepth 100000 in
set_option maxHeartbeats 4000000 in
theorem wX12_bits_4 {l : Launch} {D : va_G} {cI cZ : ClassId} {ad : Nat → Nat} {a : Program × Env × State × MethodId} {b : Array Value × List Frame × Method × Code × (State → Prop) × Nat} {A : Nat → Prop} (K : KS (GM l 0 0 D cI cZ ad a b A) cX12_bits RX12 wsX12_bits (some .int)) (hn : x_n (GM l 0 0 D cI cZ ad a b A) = 3) {res : (Int32 × St)} (hR : HRi (GM l 0 0 D cI cZ ad a b A) cX12_bits tb res) : ∀ (n : Nat) (v0 : Int32) (v1 : Int32) (v2 : Int32) (σ : St), mX12_bits_4 n v0 v1 v2 σ = some res → Wk (GM l 0 0 D cI cZ ad a b A) 4 [(0, .int v0), (1, .int v1), (2, .int v2)] [] σ := by
  intro n
  induction n with
  | zero => intro v0 v1 v2 σ h; cases h
  | succ n ih =>
    intro v0 v1 v2 σ h
    unfold mX12_bits_4 at h
    refine k_iload_n K dX12_bits_4 2 rfl ?_
    refine k_bipush (x := 30) K dX12_bits_5 (by decide) ?_
    refine k_icmp_ge (tgt := 24) K dX12_bits_7 (by decide) (fun q => ?_) (fun q => ?_)
    · have h := if_f q h
      refine k_iload_n K dX12_bits_24 1 rfl ?_
      exact ret_i hR h dX12_bits_25 trivial
    · have h := if_t q h
      refine k_iload_n K dX12_bits_10 1 rfl ?_
      refine k_iload_n K dX12_bits_11 0 rfl ?_
      refine k_iload_n K dX12_bits_12 2 rfl ?_
      refine k_ishr K dX12_bits_13 ?_
      refine k_iconst (x := 1) K dX12_bits_14 (by decide) ?_
      refine k_iand K dX12_bits_15 ?_
      refine k_iadd K dX12_bits_16 ?_
      have h := lt_some h
      refine k_istore_n (lv' := [(1, _), (0, _), (2, _)]) K dX12_bits_17 (by rw [hn]; decide) rfl ?_
      have h := lt_some h
      refine k_iinc (lv' := [(2, _), (1, _), (0, _)]) K dX12_bits_18 2 rfl (v := _ + 1) (by rfl) (by rw [hn]; decide) rfl ?_
      refine k_goto (tgt := 4) K dX12_bits_21 (by decide) ?_
      exact k_sub [2, 1, 0] rfl (ih _ _ _ _ h)
set_option maxRecDepth 100000 in
set_option maxHeartbeats 4000000 in
theorem ctX12_bits {l : Launch} {D : va_G} {cI cZ : ClassId} {ad : Nat → Nat} {v0 : Int32} {σ : St} {res : (Int32 × St)} (h : mX12_bits v0 σ = some res) : Ci l yX12_bits wsX12_bits 0 0 D vwCl (tysM cI cZ) nwM (mkM cI cZ ad) ad 17 [.int v0] σ res := by
  refine c_int (cc := cX12_bits) (maxL := 3) (by decide) rfl (Nat.le_of_ble_eq_true rfl) fun a b hn K hR => ?_
  unfold mX12_bits at h
  have K : KS (GM l 0 0 D cI cZ ad a b (w_A ad 17)) cX12_bits RX12 wsX12_bits (some .int) := K
  have hn : x_n (GM l 0 0 D cI cZ ad a b (w_A ad 17)) = 3 := hn
  refine k_sub [0] rfl ?_
  refine k_iconst (x := 0) K dX12_bits_0 (by decide) ?_
  refine k_istore_n (lv' := [(1, _), (0, _)]) K dX12_bits_1 (by rw [hn]; decide) rfl ?_
  refine k_iconst (x := 0) K dX12_bits_2 (by decide) ?_
  refine k_istore_n (lv' := [(2, _), (1, _), (0, _)]) K dX12_bits_3 (by rw [hn]; decide) rfl ?_
  exact k_sub [2, 1, 0] rfl (wX12_bits_4 K hn hR FU _ _ _ _ h)
-- X12_type (1, 25)
theorem iX12_type_X12 : ∀ w ∈ wsX120, w ∈ wsX12_type := fun _ h => List.mem_cons_of_mem _ (List.mem_append_right _ h)
theorem fX12_type_17 : Cond.fieldLink RX12 17 "SlopeCoinsModel" "text" "[I" ∈ wsX12_type := by decide +kernel
theorem fX12_type_72 : Cond.fieldLink RX12 72 "SlopeCoinsModel" "length" "I" ∈ wsX12_type := by decide +kernel
set_option maxRecDepth 100000 in
set_option maxHeartbeats 4000000 in
theorem ctX12_type {l : Launch} {D : va_G} {cI cZ : ClassId} {ad : Nat → Nat} {v1 : Int32} {σ : St} {res : (Int32 × St)} (h : mX12_type v1 σ = some res) : Ci l yX12_type wsX12_type 1 25 D vwCl (tysM cI cZ) nwM (mkM cI cZ ad) ad 17 [.ref (ad 0), .int v1] σ res := by
  refine c_int (cc := cX12_type) (maxL := 2) (by decide) rfl (Nat.le_of_ble_eq_true rfl) fun a b hn K hR => ?_
  unfold mX12_type at h
  have K : KS (GM l 1 25 D cI cZ ad a b (w_A ad 17)) cX12_type RX12 wsX12_type (some .int) := K
  have hn : x_n (GM l 1 25 D cI cZ ad a b (w_A ad 17)) = 2 := hn
  refine k_sub [0, 1] rfl ?_
  refine k_iload_n K dX12_type_0 1 rfl ?_
  refine k_i2l K dX12_type_1 ?_
  refine k_lconst (v := 0) K dX12_type_2 (by decide) ?_
  refine k_ldc2 (v := 255) K (by decide +kernel) dX12_type_3 ?_
  obtain ⟨⟨r1, s2⟩, e3, h⟩ := bd_some h
  dsimp only at h
  refine k_callSi K (ctX12_in e3) (va_cwS 3 K.ts gX12_type_X12_in rfl rfl rfl hSX12_in ⟨Nat.le_of_ble_eq_true rfl, Nat.le_of_ble_eq_true rfl⟩) rfl rfl (Nat.le_of_ble_eq_true rfl) dX12_type_6 ?_
  refine k_if_ne (tgt := 14) K dX12_type_9 (by decide) (fun q => ?_) (fun q => ?_)
  · have h := if_f q h
    refine k_aload_n K dX12_type_14 0 rfl ?_
    refine k_get K 0 12 3 iX12_type_X12 (Nat.le_of_ble_eq_true rfl) ((mM_0 cI cZ ad) _) rfl (by decide) fX12_type_72 rfl dX12_type_15 ?_
    refine k_sipush (x := 200) K dX12_type_18 (by decide) ?_
    refine k_icmp_ne (tgt := 27) K dX12_type_21 (by decide) (fun q => ?_) (fun q => ?_)
    · have h := if_f q h
      refine k_aload_n K dX12_type_27 0 rfl ?_
      refine k_get K 0 12 2 iX12_type_X12 (Nat.le_of_ble_eq_true rfl) ((mM_0 cI cZ ad) _) rfl (by decide) fX12_type_17 rfl dX12_type_28 ?_
      refine k_aload_n K dX12_type_31 0 rfl ?_
      refine k_get K 0 12 3 iX12_type_X12 (Nat.le_of_ble_eq_true rfl) ((mM_0 cI cZ ad) _) rfl (by decide) fX12_type_72 rfl dX12_type_32 ?_
      refine k_iload_n K dX12_type_35 1 rfl ?_
      obtain ⟨g4, h⟩ := gd_some h
      have h := lt_some h
      refine k_ist K 3 0 (Nat.le_of_ble_eq_true rfl) (mM_3 cI cZ ad) rfl g4 dX12_type_36 ?_
      refine k_aload_n K dX12_type_37 0 rfl ?_
      refine k_dup K dX12_type_38 rfl ?_
      refine k_get K 0 12 3 iX12_type_X12 (Nat.le_of_ble_eq_true rfl) ((mM_0 cI cZ ad) _) rfl (by decide) fX12_type_72 rfl dX12_type_39 ?_
      refine k_iconst (x := 1) K dX12_type_42 (by decide) ?_
      refine k_iadd K dX12_type_43 ?_
      have h := lt_some h
      refine k_putI K 0 12 3 tyX12 tyX12_ok nmX12 iX12_type_X12 (Nat.le_of_ble_eq_true rfl) ((mM_0 cI cZ ad) _) rfl (by decide) fX12_type_72 rfl (by decide +kernel) (Nat.le_of_ble_eq_true rfl) (pM_0_3 cI cZ ad _ _) dX12_type_44 ?_
      refine k_aload_n K dX12_type_47 0 rfl ?_
      refine k_get K 0 12 3 iX12_type_X12 (Nat.le_of_ble_eq_true rfl) ((mM_0 cI cZ ad) _) rfl (by decide) fX12_type_72 rfl dX12_type_48 ?_
      exact ret_i hR h dX12_type_51 trivial
    · have h := if_t q h
      refine k_bipush (x := (-3)) K dX12_type_24 (by decide) ?_
      exact ret_i hR h dX12_type_26 trivial
  · have h := if_t q h
    refine k_iconst (x := (-1)) K dX12_type_12 (by decide) ?_
    exact ret_i hR h dX12_type_13 trivial
-- X12_clear (0, 0)
theorem iX12_clear_X12 : ∀ w ∈ wsX120, w ∈ wsX12_clear := fun _ h => List.mem_cons_of_mem _ (List.mem_append_right _ h)
theorem fX12_clear_72 : Cond.fieldLink RX12 72 "SlopeCoinsModel" "length" "I" ∈ wsX12_clear := by decide +kernel
set_option maxRecDepth 100000 in
set_option maxHeartbeats 4000000 in
theorem ctX12_clear {l : Launch} {D : va_G} {cI cZ : ClassId} {ad : Nat → Nat} {σ : St} {res : (Int32 × St)} (h : mX12_clear σ = some res) : Ci l yX12_clear wsX12_clear 0 0 D vwCl (tysM cI cZ) nwM (mkM cI cZ ad) ad 17 [.ref (ad 0)] σ res := by
  refine c_int (cc := cX12_clear) (maxL := 2) (by decide) rfl (Nat.le_of_ble_eq_true rfl) fun a b hn K hR => ?_
  unfold mX12_clear at h
  have K : KS (GM l 0 0 D cI cZ ad a b (w_A ad 17)) cX12_clear RX12 wsX12_clear (some .int) := K
  have hn : x_n (GM l 0 0 D cI cZ ad a b (w_A ad 17)) = 2 := hn
  refine k_sub [0] rfl ?_
  refine k_aload_n K dX12_clear_0 0 rfl ?_
  refine k_get K 0 12 3 iX12_clear_X12 (Nat.le_of_ble_eq_true rfl) ((mM_0 cI cZ ad) _) rfl (by decide) fX12_clear_72 rfl dX12_clear_1 ?_
  have h := lt_some h
  refine k_istore_n (lv' := [(1, _), (0, _)]) K dX12_clear_4 (by rw [hn]; decide) rfl ?_
  refine k_aload_n K dX12_clear_5 1 rfl ?_
  refine k_iconst (x := 0) K dX12_clear_6 (by decide) ?_
  have h := lt_some h
  refine k_putI K 0 12 3 tyX12 tyX12_ok nmX12 iX12_clear_X12 (Nat.le_of_ble_eq_true rfl) ((mM_0 cI cZ ad) _) rfl (by decide) fX12_clear_72 rfl (by decide +kernel) (Nat.le_of_ble_eq_true rfl) (pM_0_3 cI cZ ad _ _) dX12_clear_7 ?_
  refine k_iload_n K dX12_clear_10 0 rfl ?_
  exact ret_i hR h dX12_clear_11 trivial
-- X12_sort (0, 0)
set_option maxRecDepth 100000 in
set_option maxHeartbeats 4000000 in
theorem wX12_sort_16 {l : Launch} {D : va_G} {cI cZ : ClassId} {ad : Nat → Nat} {a : Program × Env × State × MethodId} {b : Array Value × List Frame × Method × Code × (State → Prop) × Nat} {A : Nat → Prop} (K : KS (GM l 0 0 D cI cZ ad a b A) cX12_sort RX12 wsX12_sort (some .int)) (hn : x_n (GM l 0 0 D cI cZ ad a b A) = 1) {res : (Int32 × St)} (hR : HRi (GM l 0 0 D cI cZ ad a b A) cX12_sort tb res) : ∀ (v0 : Int32), ∀ (σ : St), mX12_sort_16 v0 σ = some res → Wk (GM l 0 0 D cI cZ ad a b A) 16 [(0, .int v0)] [] σ := by
  intro v0 σ h
  unfold mX12_sort_16 at h
  refine k_iload_n K dX12_sort_16 0 rfl ?_
  refine k_bipush (x := 48) K dX12_sort_17 (by decide) ?_
  refine k_icmp_lt (tgt := 32) K dX12_sort_19 (by decide) (fun q => ?_) (fun q => ?_)
  · have h := if_t q h
    refine k_iconst (x := 0) K dX12_sort_32 (by decide) ?_
    exact ret_i hR h dX12_sort_33 trivial
  · have h := if_f q h
    refine k_iload_n K dX12_sort_22 0 rfl ?_
    refine k_bipush (x := 57) K dX12_sort_23 (by decide) ?_
    refine k_icmp_gt (tgt := 32) K dX12_sort_25 (by decide) (fun q => ?_) (fun q => ?_)
    · have h := if_t q h
      refine k_iconst (x := 0) K dX12_sort_32 (by decide) ?_
      exact ret_i hR h dX12_sort_33 trivial
    · have h := if_f q h
      refine k_iconst (x := 2) K dX12_sort_28 (by decide) ?_
      refine k_goto (tgt := 33) K dX12_sort_29 (by decide) ?_
      exact ret_i hR h dX12_sort_33 trivial
set_option maxRecDepth 100000 in
set_option maxHeartbeats 4000000 in
theorem ctX12_sort {l : Launch} {D : va_G} {cI cZ : ClassId} {ad : Nat → Nat} {v0 : Int32} {σ : St} {res : (Int32 × St)} (h : mX12_sort v0 σ = some res) : Ci l yX12_sort wsX12_sort 0 0 D vwCl (tysM cI cZ) nwM (mkM cI cZ ad) ad 17 [.int v0] σ res := by
  refine c_int (cc := cX12_sort) (maxL := 1) (by decide) rfl (Nat.le_of_ble_eq_true rfl) fun a b hn K hR => ?_
  unfold mX12_sort at h
  have K : KS (GM l 0 0 D cI cZ ad a b (w_A ad 17)) cX12_sort RX12 wsX12_sort (some .int) := K
  have hn : x_n (GM l 0 0 D cI cZ ad a b (w_A ad 17)) = 1 := hn
  refine k_sub [0] rfl ?_
  refine k_iload_n K dX12_sort_0 0 rfl ?_
  refine k_bipush (x := 97) K dX12_sort_1 (by decide) ?_
  refine k_icmp_lt (tgt := 16) K dX12_sort_3 (by decide) (fun q => ?_) (fun q => ?_)
  · have h := if_t q h
    exact k_sub [0] rfl (wX12_sort_16 K hn hR _ _ h)
  · have h := if_f q h
    refine k_iload_n K dX12_sort_6 0 rfl ?_
    refine k_bipush (x := 122) K dX12_sort_7 (by decide) ?_
    refine k_icmp_gt (tgt := 16) K dX12_sort_9 (by decide) (fun q => ?_) (fun q => ?_)
    · have h := if_t q h
      exact k_sub [0] rfl (wX12_sort_16 K hn hR _ _ h)
    · have h := if_f q h
      refine k_iconst (x := 1) K dX12_sort_12 (by decide) ?_
      refine k_goto (tgt := 33) K dX12_sort_13 (by decide) ?_
      exact ret_i hR h dX12_sort_33 trivial
-- X12_skip (0, 0)
theorem iX12_skip_X12 : ∀ w ∈ wsX120, w ∈ wsX12_skip := fun _ h => List.mem_cons_of_mem _ (List.mem_append_right _ h)
theorem fX12_skip_17 : Cond.fieldLink RX12 17 "SlopeCoinsModel" "text" "[I" ∈ wsX12_skip := by decide +kernel
theorem fX12_skip_72 : Cond.fieldLink RX12 72 "SlopeCoinsModel" "length" "I" ∈ wsX12_skip := by decide +kernel
theorem fX12_skip_75 : Cond.fieldLink RX12 75 "SlopeCoinsModel" "at" "I" ∈ wsX12_skip := by decide +kernel
set_option maxRecDepth 100000 in
set_option maxHeartbeats 4000000 in
theorem wX12_skip_0 {l : Launch} {D : va_G} {cI cZ : ClassId} {ad : Nat → Nat} {a : Program × Env × State × MethodId} {b : Array Value × List Frame × Method × Code × (State → Prop) × Nat} {A : Nat → Prop} (K : KS (GM l 0 0 D cI cZ ad a b A) cX12_skip RX12 wsX12_skip none) (hn : x_n (GM l 0 0 D cI cZ ad a b A) = 1) {res : (Int32 × St)} (hR : HRv (GM l 0 0 D cI cZ ad a b A) cX12_skip res) : ∀ (n : Nat) (σ : St), mX12_skip_0 n σ = some res → Wk (GM l 0 0 D cI cZ ad a b A) 0 [(0, .ref (ad 0))] [] σ := by
  intro n
  induction n with
  | zero => intro σ h; cases h
  | succ n ih =>
    intro σ h
    unfold mX12_skip_0 at h
    refine k_aload_n K dX12_skip_0 0 rfl ?_
    refine k_get K 0 12 17 iX12_skip_X12 (Nat.le_of_ble_eq_true rfl) ((mM_0 cI cZ ad) _) rfl (by decide) fX12_skip_75 rfl dX12_skip_1 ?_
    refine k_aload_n K dX12_skip_4 0 rfl ?_
    refine k_get K 0 12 3 iX12_skip_X12 (Nat.le_of_ble_eq_true rfl) ((mM_0 cI cZ ad) _) rfl (by decide) fX12_skip_72 rfl dX12_skip_5 ?_
    refine k_icmp_ge (tgt := 38) K dX12_skip_8 (by decide) (fun q => ?_) (fun q => ?_)
    · have h := if_f q h
      exact ret_v hR h dX12_skip_38
    · have h := if_t q h
      refine k_aload_n K dX12_skip_11 0 rfl ?_
      refine k_get K 0 12 2 iX12_skip_X12 (Nat.le_of_ble_eq_true rfl) ((mM_0 cI cZ ad) _) rfl (by decide) fX12_skip_17 rfl dX12_skip_12 ?_
      refine k_aload_n K dX12_skip_15 0 rfl ?_
      refine k_get K 0 12 17 iX12_skip_X12 (Nat.le_of_ble_eq_true rfl) ((mM_0 cI cZ ad) _) rfl (by decide) fX12_skip_75 rfl dX12_skip_16 ?_
      obtain ⟨g1, h⟩ := gd_some h
      refine k_ild K 3 0 (Nat.le_of_ble_eq_true rfl) ((mM_3 cI cZ ad) _) rfl g1 dX12_skip_19 ?_
      refine k_bipush (x := 32) K dX12_skip_20 (by decide) ?_
      refine k_icmp_ne (tgt := 38) K dX12_skip_22 (by decide) (fun q => ?_) (fun q => ?_)
      · have h := if_f q h
        exact ret_v hR h dX12_skip_38
      · have h := if_t q h
        refine k_aload_n K dX12_skip_25 0 rfl ?_
        refine k_dup K dX12_skip_26 rfl ?_
        refine k_get K 0 12 17 iX12_skip_X12 (Nat.le_of_ble_eq_true rfl) ((mM_0 cI cZ ad) _) rfl (by decide) fX12_skip_75 rfl dX12_skip_27 ?_
        refine k_iconst (x := 1) K dX12_skip_30 (by decide) ?_
        refine k_iadd K dX12_skip_31 ?_
        have h := lt_some h
        refine k_putI K 0 12 17 tyX12 tyX12_ok nmX12 iX12_skip_X12 (Nat.le_of_ble_eq_true rfl) ((mM_0 cI cZ ad) _) rfl (by decide) fX12_skip_75 rfl (by decide +kernel) (Nat.le_of_ble_eq_true rfl) (pM_0_17 cI cZ ad _ _) dX12_skip_32 ?_
        refine k_goto (tgt := 0) K dX12_skip_35 (by decide) ?_
        exact k_sub [0] rfl (ih  _ h)
set_option maxRecDepth 100000 in
set_option maxHeartbeats 4000000 in
theorem ctX12_skip {l : Launch} {D : va_G} {cI cZ : ClassId} {ad : Nat → Nat} {σ : St} {res : (Int32 × St)} (h : mX12_skip σ = some res) : Cv l yX12_skip wsX12_skip 0 0 D vwCl (tysM cI cZ) nwM (mkM cI cZ ad) ad 17 [.ref (ad 0)] σ res := by
  refine c_void (cc := cX12_skip) (maxL := 1) (by decide) rfl (Nat.le_of_ble_eq_true rfl) fun a b hn K hR => ?_
  unfold mX12_skip at h
  have K : KS (GM l 0 0 D cI cZ ad a b (w_A ad 17)) cX12_skip RX12 wsX12_skip none := K
  have hn : x_n (GM l 0 0 D cI cZ ad a b (w_A ad 17)) = 1 := hn
  refine k_sub [0] rfl ?_
  exact k_sub [0] rfl (wX12_skip_0 K hn hR FU  _ h)
-- X12_token (1, 20)
theorem iX12_token_X12 : ∀ w ∈ wsX120, w ∈ wsX12_token := fun _ h => List.mem_cons_of_mem _ (List.mem_append_right _ h)
theorem fX12_token_17 : Cond.fieldLink RX12 17 "SlopeCoinsModel" "text" "[I" ∈ wsX12_token := by decide +kernel
theorem fX12_token_72 : Cond.fieldLink RX12 72 "SlopeCoinsModel" "length" "I" ∈ wsX12_token := by decide +kernel
theorem fX12_token_75 : Cond.fieldLink RX12 75 "SlopeCoinsModel" "at" "I" ∈ wsX12_token := by decide +kernel
theorem fX12_token_81 : Cond.fieldLink RX12 81 "SlopeCoinsModel" "place" "I" ∈ wsX12_token := by decide +kernel
theorem fX12_token_88 : Cond.fieldLink RX12 88 "SlopeCoinsModel" "end" "I" ∈ wsX12_token := by decide +kernel
set_option maxRecDepth 100000 in
set_option maxHeartbeats 4000000 in
theorem wX12_token_103 {l : Launch} {D : va_G} {cI cZ : ClassId} {ad : Nat → Nat} {a : Program × Env × State × MethodId} {b : Array Value × List Frame × Method × Code × (State → Prop) × Nat} {A : Nat → Prop} (K : KS (GM l 1 20 D cI cZ ad a b A) cX12_token RX12 wsX12_token none) (hn : x_n (GM l 1 20 D cI cZ ad a b A) = 1) {res : (Int32 × St)} (hR : HRv (GM l 1 20 D cI cZ ad a b A) cX12_token res) : ∀ (σ : St), mX12_token_103 σ = some res → Wk (GM l 1 20 D cI cZ ad a b A) 103 [(0, .ref (ad 0))] [] σ := by
  intro σ h
  unfold mX12_token_103 at h
  refine k_aload_n K dX12_token_103 0 rfl ?_
  refine k_aload_n K dX12_token_104 0 rfl ?_
  refine k_get K 0 12 17 iX12_token_X12 (Nat.le_of_ble_eq_true rfl) ((mM_0 cI cZ ad) _) rfl (by decide) fX12_token_75 rfl dX12_token_105 ?_
  have h := lt_some h
  refine k_putI K 0 12 19 tyX12 tyX12_ok nmX12 iX12_token_X12 (Nat.le_of_ble_eq_true rfl) ((mM_0 cI cZ ad) _) rfl (by decide) fX12_token_88 rfl (by decide +kernel) (Nat.le_of_ble_eq_true rfl) (pM_0_19 cI cZ ad _ _) dX12_token_108 ?_
  exact ret_v hR h dX12_token_111
set_option maxRecDepth 100000 in
set_option maxHeartbeats 4000000 in
theorem wX12_token_37 {l : Launch} {D : va_G} {cI cZ : ClassId} {ad : Nat → Nat} {a : Program × Env × State × MethodId} {b : Array Value × List Frame × Method × Code × (State → Prop) × Nat} {A : Nat → Prop} {k103 : St → Option (Int32 × St)} (K : KS (GM l 1 20 D cI cZ ad a b A) cX12_token RX12 wsX12_token none) (hn : x_n (GM l 1 20 D cI cZ ad a b A) = 1) {res : (Int32 × St)} (hR : HRv (GM l 1 20 D cI cZ ad a b A) cX12_token res) (hk103 : ∀ (σ : St), k103 σ = some res → Wk (GM l 1 20 D cI cZ ad a b A) 103 [(0, .ref (ad 0))] [] σ) : ∀ (n : Nat) (σ : St), mX12_token_37 k103 n σ = some res → Wk (GM l 1 20 D cI cZ ad a b A) 37 [(0, .ref (ad 0))] [] σ := by
  intro n
  induction n with
  | zero => intro σ h; cases h
  | succ n ih =>
    intro σ h
    unfold mX12_token_37 at h
    refine k_aload_n K dX12_token_37 0 rfl ?_
    refine k_get K 0 12 17 iX12_token_X12 (Nat.le_of_ble_eq_true rfl) ((mM_0 cI cZ ad) _) rfl (by decide) fX12_token_75 rfl dX12_token_38 ?_
    refine k_aload_n K dX12_token_41 0 rfl ?_
    refine k_get K 0 12 3 iX12_token_X12 (Nat.le_of_ble_eq_true rfl) ((mM_0 cI cZ ad) _) rfl (by decide) fX12_token_72 rfl dX12_token_42 ?_
    refine k_icmp_ge (tgt := 103) K dX12_token_45 (by decide) (fun q => ?_) (fun q => ?_)
    · have h := if_f q h
      exact k_sub [0] rfl (hk103  _ h)
    · have h := if_t q h
      refine k_aload_n K dX12_token_48 0 rfl ?_
      refine k_get K 0 12 2 iX12_token_X12 (Nat.le_of_ble_eq_true rfl) ((mM_0 cI cZ ad) _) rfl (by decide) fX12_token_17 rfl dX12_token_49 ?_
      refine k_aload_n K dX12_token_52 0 rfl ?_
      refine k_get K 0 12 18 iX12_token_X12 (Nat.le_of_ble_eq_true rfl) ((mM_0 cI cZ ad) _) rfl (by decide) fX12_token_81 rfl dX12_token_53 ?_
      obtain ⟨g7, h⟩ := gd_some h
      refine k_ild K 3 0 (Nat.le_of_ble_eq_true rfl) ((mM_3 cI cZ ad) _) rfl g7 dX12_token_56 ?_
      obtain ⟨⟨r8, s9⟩, e10, h⟩ := bd_some h
      dsimp only at h
      refine k_callSi K (ctX12_sort e10) (va_cwS 1 K.ts gX12_token_X12_sort rfl rfl rfl hSX12_sort ⟨Nat.le_of_ble_eq_true rfl, Nat.le_of_ble_eq_true rfl⟩) rfl rfl (Nat.le_of_ble_eq_true rfl) dX12_token_57 ?_
      refine k_if_le (tgt := 103) K dX12_token_60 (by decide) (fun q => ?_) (fun q => ?_)
      · have h := if_f q h
        exact k_sub [0] rfl (hk103  _ h)
      · have h := if_t q h
        refine k_aload_n K dX12_token_63 0 rfl ?_
        refine k_get K 0 12 2 iX12_token_X12 (Nat.le_of_ble_eq_true rfl) ((mM_0 cI cZ ad) _) rfl (by decide) fX12_token_17 rfl dX12_token_64 ?_
        refine k_aload_n K dX12_token_67 0 rfl ?_
        refine k_get K 0 12 17 iX12_token_X12 (Nat.le_of_ble_eq_true rfl) ((mM_0 cI cZ ad) _) rfl (by decide) fX12_token_75 rfl dX12_token_68 ?_
        obtain ⟨g11, h⟩ := gd_some h
        refine k_ild K 3 0 (Nat.le_of_ble_eq_true rfl) ((mM_3 cI cZ ad) _) rfl g11 dX12_token_71 ?_
        obtain ⟨⟨r12, s13⟩, e14, h⟩ := bd_some h
        dsimp only at h
        refine k_callSi K (ctX12_sort e14) (va_cwS 1 K.ts gX12_token_X12_sort rfl rfl rfl hSX12_sort ⟨Nat.le_of_ble_eq_true rfl, Nat.le_of_ble_eq_true rfl⟩) rfl rfl (Nat.le_of_ble_eq_true rfl) dX12_token_72 ?_
        refine k_aload_n K dX12_token_75 0 rfl ?_
        refine k_get K 0 12 2 iX12_token_X12 (Nat.le_of_ble_eq_true rfl) ((mM_0 cI cZ ad) _) rfl (by decide) fX12_token_17 rfl dX12_token_76 ?_
        refine k_aload_n K dX12_token_79 0 rfl ?_
        refine k_get K 0 12 18 iX12_token_X12 (Nat.le_of_ble_eq_true rfl) ((mM_0 cI cZ ad) _) rfl (by decide) fX12_token_81 rfl dX12_token_80 ?_
        obtain ⟨g15, h⟩ := gd_some h
        refine k_ild K 3 0 (Nat.le_of_ble_eq_true rfl) ((mM_3 cI cZ ad) _) rfl g15 dX12_token_83 ?_
        obtain ⟨⟨r16, s17⟩, e18, h⟩ := bd_some h
        dsimp only at h
        refine k_callSi K (ctX12_sort e18) (va_cwS 1 K.ts gX12_token_X12_sort rfl rfl rfl hSX12_sort ⟨Nat.le_of_ble_eq_true rfl, Nat.le_of_ble_eq_true rfl⟩) rfl rfl (Nat.le_of_ble_eq_true rfl) dX12_token_84 ?_
        refine k_icmp_ne (tgt := 103) K dX12_token_87 (by decide) (fun q => ?_) (fun q => ?_)
        · have h := if_f q h
          exact k_sub [0] rfl (hk103  _ h)
        · have h := if_t q h
          refine k_aload_n K dX12_token_90 0 rfl ?_
          refine k_dup K dX12_token_91 rfl ?_
          refine k_get K 0 12 17 iX12_token_X12 (Nat.le_of_ble_eq_true rfl) ((mM_0 cI cZ ad) _) rfl (by decide) fX12_token_75 rfl dX12_token_92 ?_
          refine k_iconst (x := 1) K dX12_token_95 (by decide) ?_
          refine k_iadd K dX12_token_96 ?_
          have h := lt_some h
          refine k_putI K 0 12 17 tyX12 tyX12_ok nmX12 iX12_token_X12 (Nat.le_of_ble_eq_true rfl) ((mM_0 cI cZ ad) _) rfl (by decide) fX12_token_75 rfl (by decide +kernel) (Nat.le_of_ble_eq_true rfl) (pM_0_17 cI cZ ad _ _) dX12_token_97 ?_
          refine k_goto (tgt := 37) K dX12_token_100 (by decide) ?_
          exact k_sub [0] rfl (ih  _ h)
set_option maxRecDepth 100000 in
set_option maxHeartbeats 4000000 in
theorem wX12_token_33 {l : Launch} {D : va_G} {cI cZ : ClassId} {ad : Nat → Nat} {a : Program × Env × State × MethodId} {b : Array Value × List Frame × Method × Code × (State → Prop) × Nat} {A : Nat → Prop} (K : KS (GM l 1 20 D cI cZ ad a b A) cX12_token RX12 wsX12_token none) (hn : x_n (GM l 1 20 D cI cZ ad a b A) = 1) {res : (Int32 × St)} (hR : HRv (GM l 1 20 D cI cZ ad a b A) cX12_token res) : ∀ (t0 : Int32), ∀ (t1 : Int32), ∀ (σ : St), mX12_token_33 t0 t1 σ = some res → Wk (GM l 1 20 D cI cZ ad a b A) 33 [(0, .ref (ad 0))] [.int t0, .int t1, .ref (ad 0)] σ := by
  intro t0 t1 σ h
  unfold mX12_token_33 at h
  refine k_iadd K dX12_token_33 ?_
  have h := lt_some h
  refine k_putI K 0 12 17 tyX12 tyX12_ok nmX12 iX12_token_X12 (Nat.le_of_ble_eq_true rfl) ((mM_0 cI cZ ad) _) rfl (by decide) fX12_token_75 rfl (by decide +kernel) (Nat.le_of_ble_eq_true rfl) (pM_0_17 cI cZ ad _ _) dX12_token_34 ?_
  exact k_sub [0] rfl (wX12_token_37 K hn hR (fun  σ h => wX12_token_103 K hn hR  σ h) FU  _ h)
set_option maxRecDepth 100000 in
set_option maxHeartbeats 4000000 in
theorem ctX12_token {l : Launch} {D : va_G} {cI cZ : ClassId} {ad : Nat → Nat} {σ : St} {res : (Int32 × St)} (h : mX12_token σ = some res) : Cv l yX12_token wsX12_token 1 20 D vwCl (tysM cI cZ) nwM (mkM cI cZ ad) ad 17 [.ref (ad 0)] σ res := by
  refine c_void (cc := cX12_token) (maxL := 1) (by decide) rfl (Nat.le_of_ble_eq_true rfl) fun a b hn K hR => ?_
  unfold mX12_token at h
  have K : KS (GM l 1 20 D cI cZ ad a b (w_A ad 17)) cX12_token RX12 wsX12_token none := K
  have hn : x_n (GM l 1 20 D cI cZ ad a b (w_A ad 17)) = 1 := hn
  refine k_sub [0] rfl ?_
  refine k_aload_n K dX12_token_0 0 rfl ?_
  obtain ⟨⟨r1, s2⟩, e3, h⟩ := bd_some h
  dsimp only at h
  refine k_callVv K 0 12 (Nat.le_of_ble_eq_true rfl) ((mM_0 cI cZ ad) _) rfl (ctX12_skip e3) (cwV 0 K.ts gX12_token_X12_skip rfl rfl rfl hVX12_skip ⟨Nat.le_of_ble_eq_true rfl, Nat.le_of_ble_eq_true rfl⟩) rfl rfl (Nat.le_of_ble_eq_true rfl) dX12_token_1 ?_
  refine k_aload_n K dX12_token_4 0 rfl ?_
  refine k_aload_n K dX12_token_5 0 rfl ?_
  refine k_get K 0 12 17 iX12_token_X12 (Nat.le_of_ble_eq_true rfl) ((mM_0 cI cZ ad) _) rfl (by decide) fX12_token_75 rfl dX12_token_6 ?_
  have h := lt_some h
  refine k_putI K 0 12 18 tyX12 tyX12_ok nmX12 iX12_token_X12 (Nat.le_of_ble_eq_true rfl) ((mM_0 cI cZ ad) _) rfl (by decide) fX12_token_81 rfl (by decide +kernel) (Nat.le_of_ble_eq_true rfl) (pM_0_18 cI cZ ad _ _) dX12_token_9 ?_
  refine k_aload_n K dX12_token_12 0 rfl ?_
  refine k_dup K dX12_token_13 rfl ?_
  refine k_get K 0 12 17 iX12_token_X12 (Nat.le_of_ble_eq_true rfl) ((mM_0 cI cZ ad) _) rfl (by decide) fX12_token_75 rfl dX12_token_14 ?_
  refine k_aload_n K dX12_token_17 0 rfl ?_
  refine k_get K 0 12 17 iX12_token_X12 (Nat.le_of_ble_eq_true rfl) ((mM_0 cI cZ ad) _) rfl (by decide) fX12_token_75 rfl dX12_token_18 ?_
  refine k_aload_n K dX12_token_21 0 rfl ?_
  refine k_get K 0 12 3 iX12_token_X12 (Nat.le_of_ble_eq_true rfl) ((mM_0 cI cZ ad) _) rfl (by decide) fX12_token_72 rfl dX12_token_22 ?_
  refine k_icmp_ge (tgt := 32) K dX12_token_25 (by decide) (fun q => ?_) (fun q => ?_)
  · have h := if_f q h
    refine k_iconst (x := 0) K dX12_token_32 (by decide) ?_
    exact k_sub [0] rfl (wX12_token_33 K hn hR _ _ _ h)
  · have h := if_t q h
    refine k_iconst (x := 1) K dX12_token_28 (by decide) ?_
    refine k_goto (tgt := 33) K dX12_token_29 (by decide) ?_
    exact k_sub [0] rfl (wX12_token_33 K hn hR _ _ _ h)
-- X12_number (1, 25)
theorem iX12_number_X12 : ∀ w ∈ wsX120, w ∈ wsX12_number := fun _ h => List.mem_cons_of_mem _ (List.mem_append_right _ h)
theorem fX12_number_17 : Cond.fieldLink RX12 17 "SlopeCoinsModel" "text" "[I" ∈ wsX12_number := by decide +kernel
theorem fX12_number_72 : Cond.fieldLink RX12 72 "SlopeCoinsModel" "length" "I" ∈ wsX12_number := by decide +kernel
theorem fX12_number_81 : Cond.fieldLink RX12 81 "SlopeCoinsModel" "place" "I" ∈ wsX12_number := by decide +kernel
theorem fX12_number_88 : Cond.fieldLink RX12 88 "SlopeCoinsModel" "end" "I" ∈ wsX12_number := by decide +kernel
set_option maxRecDepth 100000 in
set_option maxHeartbeats 4000000 in
theorem wX12_number_109 {l : Launch} {D : va_G} {cI cZ : ClassId} {ad : Nat → Nat} {a : Program × Env × State × MethodId} {b : Array Value × List Frame × Method × Code × (State → Prop) × Nat} {A : Nat → Prop} (K : KS (GM l 1 25 D cI cZ ad a b A) cX12_number RX12 wsX12_number (some .int)) (hn : x_n (GM l 1 25 D cI cZ ad a b A) = 5) {res : (Int32 × St)} (hR : HRi (GM l 1 25 D cI cZ ad a b A) cX12_number tb res) : ∀ (v1 : Int32), ∀ (v2 : Int32), ∀ (v3 : Int32), ∀ (σ : St), mX12_number_109 v1 v2 v3 σ = some res → Wk (GM l 1 25 D cI cZ ad a b A) 109 [(1, .int v1), (2, .int v2), (3, .int v3)] [] σ := by
  intro v1 v2 v3 σ h
  unfold mX12_number_109 at h
  refine k_iload_n K dX12_number_109 2 rfl ?_
  refine k_i2l K dX12_number_110 ?_
  refine k_iload_n K dX12_number_111 0 rfl ?_
  refine k_i2l K dX12_number_112 ?_
  refine k_iload_n K dX12_number_113 1 rfl ?_
  refine k_i2l K dX12_number_114 ?_
  obtain ⟨⟨r6, s7⟩, e8, h⟩ := bd_some h
  dsimp only at h
  refine k_callSi K (ctX12_in e8) (va_cwS 3 K.ts gX12_number_X12_in rfl rfl rfl hSX12_in ⟨Nat.le_of_ble_eq_true rfl, Nat.le_of_ble_eq_true rfl⟩) rfl rfl (Nat.le_of_ble_eq_true rfl) dX12_number_115 ?_
  refine k_if_eq (tgt := 125) K dX12_number_118 (by decide) (fun q => ?_) (fun q => ?_)
  · have h := if_t q h
    refine k_bipush (x := (-9)) K dX12_number_125 (by decide) ?_
    exact ret_i hR h dX12_number_127 trivial
  · have h := if_f q h
    refine k_iload_n K dX12_number_121 2 rfl ?_
    refine k_goto (tgt := 127) K dX12_number_122 (by decide) ?_
    exact ret_i hR h dX12_number_127 trivial
set_option maxRecDepth 100000 in
set_option maxHeartbeats 4000000 in
theorem wX12_number_78 {l : Launch} {D : va_G} {cI cZ : ClassId} {ad : Nat → Nat} {a : Program × Env × State × MethodId} {b : Array Value × List Frame × Method × Code × (State → Prop) × Nat} {A : Nat → Prop} {k109 : Int32 → Int32 → Int32 → St → Option (Int32 × St)} (K : KS (GM l 1 25 D cI cZ ad a b A) cX12_number RX12 wsX12_number (some .int)) (hn : x_n (GM l 1 25 D cI cZ ad a b A) = 5) {res : (Int32 × St)} (hR : HRi (GM l 1 25 D cI cZ ad a b A) cX12_number tb res) (hk109 : ∀ (v1 : Int32) (v2 : Int32) (v3 : Int32) (σ : St), k109 v1 v2 v3 σ = some res → Wk (GM l 1 25 D cI cZ ad a b A) 109 [(1, .int v1), (2, .int v2), (3, .int v3)] [] σ) : ∀ (n : Nat) (v1 : Int32) (v2 : Int32) (v3 : Int32) (v4 : Int32) (σ : St), mX12_number_78 k109 n v1 v2 v3 v4 σ = some res → Wk (GM l 1 25 D cI cZ ad a b A) 78 [(0, .ref (ad 0)), (1, .int v1), (2, .int v2), (3, .int v3), (4, .int v4)] [] σ := by
  intro n
  induction n with
  | zero => intro v1 v2 v3 v4 σ h; cases h
  | succ n ih =>
    intro v1 v2 v3 v4 σ h
    unfold mX12_number_78 at h
    refine k_iload K dX12_number_78 4 rfl ?_
    refine k_aload_n K dX12_number_80 0 rfl ?_
    refine k_get K 0 12 19 iX12_number_X12 (Nat.le_of_ble_eq_true rfl) ((mM_0 cI cZ ad) _) rfl (by decide) fX12_number_88 rfl dX12_number_81 ?_
    refine k_icmp_ge (tgt := 109) K dX12_number_84 (by decide) (fun q => ?_) (fun q => ?_)
    · have h := if_f q h
      exact k_sub [1, 2, 3] rfl (hk109 _ _ _ _ h)
    · have h := if_t q h
      refine k_bipush (x := 10) K dX12_number_87 (by decide) ?_
      refine k_iload_n K dX12_number_89 3 rfl ?_
      refine k_imul K dX12_number_90 ?_
      refine k_aload_n K dX12_number_91 0 rfl ?_
      refine k_get K 0 12 2 iX12_number_X12 (Nat.le_of_ble_eq_true rfl) ((mM_0 cI cZ ad) _) rfl (by decide) fX12_number_17 rfl dX12_number_92 ?_
      refine k_iload K dX12_number_95 4 rfl ?_
      obtain ⟨g9, h⟩ := gd_some h
      refine k_ild K 3 0 (Nat.le_of_ble_eq_true rfl) ((mM_3 cI cZ ad) _) rfl g9 dX12_number_97 ?_
      refine k_iadd K dX12_number_98 ?_
      refine k_bipush (x := 48) K dX12_number_99 (by decide) ?_
      refine k_isub K dX12_number_101 ?_
      have h := lt_some h
      refine k_istore_n (lv' := [(3, _), (0, _), (1, _), (2, _), (4, _)]) K dX12_number_102 (by rw [hn]; decide) rfl ?_
      have h := lt_some h
      refine k_iinc (lv' := [(4, _), (3, _), (0, _), (1, _), (2, _)]) K dX12_number_103 4 rfl (v := _ + 1) (by rfl) (by rw [hn]; decide) rfl ?_
      refine k_goto (tgt := 78) K dX12_number_106 (by decide) ?_
      exact k_sub [2, 3, 4, 1, 0] rfl (ih _ _ _ _ _ h)
set_option maxRecDepth 100000 in
set_option maxHeartbeats 4000000 in
theorem wX12_number_70 {l : Launch} {D : va_G} {cI cZ : ClassId} {ad : Nat → Nat} {a : Program × Env × State × MethodId} {b : Array Value × List Frame × Method × Code × (State → Prop) × Nat} {A : Nat → Prop} (K : KS (GM l 1 25 D cI cZ ad a b A) cX12_number RX12 wsX12_number (some .int)) (hn : x_n (GM l 1 25 D cI cZ ad a b A) = 5) {res : (Int32 × St)} (hR : HRi (GM l 1 25 D cI cZ ad a b A) cX12_number tb res) : ∀ (v1 : Int32), ∀ (v2 : Int32), ∀ (σ : St), mX12_number_70 v1 v2 σ = some res → Wk (GM l 1 25 D cI cZ ad a b A) 70 [(0, .ref (ad 0)), (1, .int v1), (2, .int v2)] [] σ := by
  intro v1 v2 σ h
  unfold mX12_number_70 at h
  refine k_iconst (x := 0) K dX12_number_70 (by decide) ?_
  refine k_istore_n (lv' := [(3, _), (0, _), (1, _), (2, _)]) K dX12_number_71 (by rw [hn]; decide) rfl ?_
  refine k_aload_n K dX12_number_72 1 rfl ?_
  refine k_get K 0 12 18 iX12_number_X12 (Nat.le_of_ble_eq_true rfl) ((mM_0 cI cZ ad) _) rfl (by decide) fX12_number_81 rfl dX12_number_73 ?_
  have h := lt_some h
  refine k_istore (lv' := [(4, _), (3, _), (0, _), (1, _), (2, _)]) K dX12_number_76 (by rw [hn]; decide) rfl ?_
  exact k_sub [2, 3, 4, 1, 0] rfl (wX12_number_78 K hn hR (fun v1 v2 v3 σ h => wX12_number_109 K hn hR v1 v2 v3 σ h) FU _ _ _ _ _ h)
set_option maxRecDepth 100000 in
set_option maxHeartbeats 4000000 in
theorem ctX12_number {l : Launch} {D : va_G} {cI cZ : ClassId} {ad : Nat → Nat} {v1 : Int32} {v2 : Int32} {σ : St} {res : (Int32 × St)} (h : mX12_number v1 v2 σ = some res) : Ci l yX12_number wsX12_number 1 25 D vwCl (tysM cI cZ) nwM (mkM cI cZ ad) ad 17 [.ref (ad 0), .int v1, .int v2] σ res := by
  refine c_int (cc := cX12_number) (maxL := 5) (by decide) rfl (Nat.le_of_ble_eq_true rfl) fun a b hn K hR => ?_
  unfold mX12_number at h
  have K : KS (GM l 1 25 D cI cZ ad a b (w_A ad 17)) cX12_number RX12 wsX12_number (some .int) := K
  have hn : x_n (GM l 1 25 D cI cZ ad a b (w_A ad 17)) = 5 := hn
  refine k_sub [0, 1, 2] rfl ?_
  refine k_aload_n K dX12_number_0 0 rfl ?_
  refine k_get K 0 12 18 iX12_number_X12 (Nat.le_of_ble_eq_true rfl) ((mM_0 cI cZ ad) _) rfl (by decide) fX12_number_81 rfl dX12_number_1 ?_
  refine k_aload_n K dX12_number_4 0 rfl ?_
  refine k_get K 0 12 3 iX12_number_X12 (Nat.le_of_ble_eq_true rfl) ((mM_0 cI cZ ad) _) rfl (by decide) fX12_number_72 rfl dX12_number_5 ?_
  refine k_icmp_eq (tgt := 67) K dX12_number_8 (by decide) (fun q => ?_) (fun q => ?_)
  · have h := if_t q h
    refine k_bipush (x := (-9)) K dX12_number_67 (by decide) ?_
    exact ret_i hR h dX12_number_69 trivial
  · have h := if_f q h
    refine k_aload_n K dX12_number_11 0 rfl ?_
    refine k_get K 0 12 2 iX12_number_X12 (Nat.le_of_ble_eq_true rfl) ((mM_0 cI cZ ad) _) rfl (by decide) fX12_number_17 rfl dX12_number_12 ?_
    refine k_aload_n K dX12_number_15 0 rfl ?_
    refine k_get K 0 12 18 iX12_number_X12 (Nat.le_of_ble_eq_true rfl) ((mM_0 cI cZ ad) _) rfl (by decide) fX12_number_81 rfl dX12_number_16 ?_
    obtain ⟨g1, h⟩ := gd_some h
    refine k_ild K 3 0 (Nat.le_of_ble_eq_true rfl) ((mM_3 cI cZ ad) _) rfl g1 dX12_number_19 ?_
    obtain ⟨⟨r2, s3⟩, e4, h⟩ := bd_some h
    dsimp only at h
    refine k_callSi K (ctX12_sort e4) (va_cwS 1 K.ts gX12_number_X12_sort rfl rfl rfl hSX12_sort ⟨Nat.le_of_ble_eq_true rfl, Nat.le_of_ble_eq_true rfl⟩) rfl rfl (Nat.le_of_ble_eq_true rfl) dX12_number_20 ?_
    refine k_iconst (x := 2) K dX12_number_23 (by decide) ?_
    refine k_icmp_ne (tgt := 67) K dX12_number_24 (by decide) (fun q => ?_) (fun q => ?_)
    · have h := if_f q h
      refine k_bipush (x := (-9)) K dX12_number_67 (by decide) ?_
      exact ret_i hR h dX12_number_69 trivial
    · have h := if_t q h
      refine k_aload_n K dX12_number_27 0 rfl ?_
      refine k_get K 0 12 19 iX12_number_X12 (Nat.le_of_ble_eq_true rfl) ((mM_0 cI cZ ad) _) rfl (by decide) fX12_number_88 rfl dX12_number_28 ?_
      refine k_aload_n K dX12_number_31 0 rfl ?_
      refine k_get K 0 12 18 iX12_number_X12 (Nat.le_of_ble_eq_true rfl) ((mM_0 cI cZ ad) _) rfl (by decide) fX12_number_81 rfl dX12_number_32 ?_
      refine k_isub K dX12_number_35 ?_
      refine k_iconst (x := 2) K dX12_number_36 (by decide) ?_
      refine k_icmp_gt (tgt := 67) K dX12_number_37 (by decide) (fun q => ?_) (fun q => ?_)
      · have h := if_t q h
        refine k_bipush (x := (-9)) K dX12_number_67 (by decide) ?_
        exact ret_i hR h dX12_number_69 trivial
      · have h := if_f q h
        refine k_aload_n K dX12_number_40 0 rfl ?_
        refine k_get K 0 12 19 iX12_number_X12 (Nat.le_of_ble_eq_true rfl) ((mM_0 cI cZ ad) _) rfl (by decide) fX12_number_88 rfl dX12_number_41 ?_
        refine k_aload_n K dX12_number_44 0 rfl ?_
        refine k_get K 0 12 18 iX12_number_X12 (Nat.le_of_ble_eq_true rfl) ((mM_0 cI cZ ad) _) rfl (by decide) fX12_number_81 rfl dX12_number_45 ?_
        refine k_isub K dX12_number_48 ?_
        refine k_iconst (x := 2) K dX12_number_49 (by decide) ?_
        refine k_icmp_ne (tgt := 70) K dX12_number_50 (by decide) (fun q => ?_) (fun q => ?_)
        · have h := if_f q h
          exact k_sub [0, 1, 2] rfl (wX12_number_70 K hn hR _ _ _ h)
        · have h := if_t q h
          refine k_aload_n K dX12_number_53 0 rfl ?_
          refine k_get K 0 12 2 iX12_number_X12 (Nat.le_of_ble_eq_true rfl) ((mM_0 cI cZ ad) _) rfl (by decide) fX12_number_17 rfl dX12_number_54 ?_
          refine k_aload_n K dX12_number_57 0 rfl ?_
          refine k_get K 0 12 18 iX12_number_X12 (Nat.le_of_ble_eq_true rfl) ((mM_0 cI cZ ad) _) rfl (by decide) fX12_number_81 rfl dX12_number_58 ?_
          obtain ⟨g12, h⟩ := gd_some h
          refine k_ild K 3 0 (Nat.le_of_ble_eq_true rfl) ((mM_3 cI cZ ad) _) rfl g12 dX12_number_61 ?_
          refine k_bipush (x := 48) K dX12_number_62 (by decide) ?_
          refine k_icmp_ne (tgt := 70) K dX12_number_64 (by decide) (fun q => ?_) (fun q => ?_)
          · have h := if_f q h
            exact k_sub [0, 1, 2] rfl (wX12_number_70 K hn hR _ _ _ h)
          · have h := if_t q h
            refine k_bipush (x := (-9)) K dX12_number_67 (by decide) ?_
            exact ret_i hR h dX12_number_69 trivial
-- X12_reads (2, 49)
theorem iX12_reads_X12 : ∀ w ∈ wsX120, w ∈ wsX12_reads := fun _ h => List.mem_cons_of_mem _ (List.mem_append_right _ h)
theorem fX12_reads_53 : Cond.fieldLink RX12 53 "SlopeCoinsModel" "numbers" "[I" ∈ wsX12_reads := by decide +kernel
set_option maxRecDepth 100000 in
set_option maxHeartbeats 4000000 in
theorem ctX12_reads {l : Launch} {D : va_G} {cI cZ : ClassId} {ad : Nat → Nat} {v1 : Int32} {v2 : Int32} {v3 : Int32} {σ : St} {res : (Int32 × St)} (h : mX12_reads v1 v2 v3 σ = some res) : Ci l yX12_reads wsX12_reads 2 49 D vwCl (tysM cI cZ) nwM (mkM cI cZ ad) ad 17 [.ref (ad 0), .int v1, .int v2, .int v3] σ res := by
  refine c_bool (cc := cX12_reads) (maxL := 4) (by decide) rfl (Nat.le_of_ble_eq_true rfl) fun a b hn K hR => ?_
  unfold mX12_reads at h
  have K : KS (GM l 2 49 D cI cZ ad a b (w_A ad 17)) cX12_reads RX12 wsX12_reads (some .boolean) := K
  have hn : x_n (GM l 2 49 D cI cZ ad a b (w_A ad 17)) = 4 := hn
  refine k_sub [0, 1, 2, 3] rfl ?_
  refine k_aload_n K dX12_reads_0 0 rfl ?_
  refine k_get K 0 12 29 iX12_reads_X12 (Nat.le_of_ble_eq_true rfl) ((mM_0 cI cZ ad) _) rfl (by decide) fX12_reads_53 rfl dX12_reads_1 ?_
  refine k_iload_n K dX12_reads_4 1 rfl ?_
  refine k_aload_n K dX12_reads_5 0 rfl ?_
  refine k_iload_n K dX12_reads_6 2 rfl ?_
  refine k_iload_n K dX12_reads_7 3 rfl ?_
  obtain ⟨⟨r1, s2⟩, e3, h⟩ := bd_some h
  dsimp only at h
  refine k_callVi K 0 12 (Nat.le_of_ble_eq_true rfl) ((mM_0 cI cZ ad) _) rfl (ctX12_number e3) (cwV 2 K.ts gX12_reads_X12_number rfl rfl rfl hVX12_number ⟨Nat.le_of_ble_eq_true rfl, Nat.le_of_ble_eq_true rfl⟩) rfl rfl (Nat.le_of_ble_eq_true rfl) dX12_reads_8 ?_
  obtain ⟨g4, h⟩ := gd_some h
  have h := lt_some h
  refine k_ist K 15 0 (Nat.le_of_ble_eq_true rfl) (mM_15 cI cZ ad) rfl g4 dX12_reads_11 ?_
  refine k_aload_n K dX12_reads_12 0 rfl ?_
  refine k_get K 0 12 29 iX12_reads_X12 (Nat.le_of_ble_eq_true rfl) ((mM_0 cI cZ ad) _) rfl (by decide) fX12_reads_53 rfl dX12_reads_13 ?_
  refine k_iload_n K dX12_reads_16 1 rfl ?_
  obtain ⟨g6, h⟩ := gd_some h
  refine k_ild K 15 0 (Nat.le_of_ble_eq_true rfl) ((mM_15 cI cZ ad) _) rfl g6 dX12_reads_17 ?_
  refine k_bipush (x := (-9)) K dX12_reads_18 (by decide) ?_
  refine k_icmp_ne (tgt := 25) K dX12_reads_20 (by decide) (fun q => ?_) (fun q => ?_)
  · have h := if_f q h
    refine k_aload_n K dX12_reads_25 0 rfl ?_
    obtain ⟨⟨r7, s8⟩, e9, h⟩ := bd_some h
    dsimp only at h
    refine k_callVv K 0 12 (Nat.le_of_ble_eq_true rfl) ((mM_0 cI cZ ad) _) rfl (ctX12_token e9) (cwV 0 K.ts gX12_reads_X12_token rfl rfl rfl hVX12_token ⟨Nat.le_of_ble_eq_true rfl, Nat.le_of_ble_eq_true rfl⟩) rfl rfl (Nat.le_of_ble_eq_true rfl) dX12_reads_26 ?_
    refine k_iconst (x := 1) K dX12_reads_29 (by decide) ?_
    exact ret_i hR h dX12_reads_30 zb_1
  · have h := if_t q h
    refine k_iconst (x := 0) K dX12_reads_23 (by decide) ?_
    exact ret_i hR h dX12_reads_24 zb_0
-- X12_readsHeights (2, 49)
theorem iX12_readsHeights_X12 : ∀ w ∈ wsX120, w ∈ wsX12_readsHeights := fun _ h => List.mem_cons_of_mem _ (List.mem_append_right _ h)
theorem fX12_readsHeights_17 : Cond.fieldLink RX12 17 "SlopeCoinsModel" "text" "[I" ∈ wsX12_readsHeights := by decide +kernel
theorem fX12_readsHeights_41 : Cond.fieldLink RX12 41 "SlopeCoinsModel" "readHeights" "[I" ∈ wsX12_readsHeights := by decide +kernel
theorem fX12_readsHeights_53 : Cond.fieldLink RX12 53 "SlopeCoinsModel" "numbers" "[I" ∈ wsX12_readsHeights := by decide +kernel
theorem fX12_readsHeights_72 : Cond.fieldLink RX12 72 "SlopeCoinsModel" "length" "I" ∈ wsX12_readsHeights := by decide +kernel
theorem fX12_readsHeights_75 : Cond.fieldLink RX12 75 "SlopeCoinsModel" "at" "I" ∈ wsX12_readsHeights := by decide +kernel
theorem fX12_readsHeights_81 : Cond.fieldLink RX12 81 "SlopeCoinsModel" "place" "I" ∈ wsX12_readsHeights := by decide +kernel
theorem fX12_readsHeights_98 : Cond.fieldLink RX12 98 "SlopeCoinsModel" "readWide" "I" ∈ wsX12_readsHeights := by decide +kernel
theorem fX12_readsHeights_101 : Cond.fieldLink RX12 101 "SlopeCoinsModel" "readHigh" "I" ∈ wsX12_readsHeights := by decide +kernel
set_option maxRecDepth 100000 in
set_option maxHeartbeats 4000000 in
theorem wX12_readsHeights_77 {l : Launch} {D : va_G} {cI cZ : ClassId} {ad : Nat → Nat} {a : Program × Env × State × MethodId} {b : Array Value × List Frame × Method × Code × (State → Prop) × Nat} {A : Nat → Prop} (K : KS (GM l 2 49 D cI cZ ad a b A) cX12_readsHeights RX12 wsX12_readsHeights (some .boolean)) (hn : x_n (GM l 2 49 D cI cZ ad a b A) = 2) {res : (Int32 × St)} (hR : HRi (GM l 2 49 D cI cZ ad a b A) cX12_readsHeights zb res) : ∀ (n : Nat) (v1 : Int32) (σ : St), mX12_readsHeights_77 n v1 σ = some res → Wk (GM l 2 49 D cI cZ ad a b A) 77 [(0, .ref (ad 0)), (1, .int v1)] [] σ := by
  intro n
  induction n with
  | zero => intro v1 σ h; cases h
  | succ n ih =>
    intro v1 σ h
    unfold mX12_readsHeights_77 at h
    refine k_iload_n K dX12_readsHeights_77 1 rfl ?_
    refine k_aload_n K dX12_readsHeights_78 0 rfl ?_
    refine k_get K 0 12 20 iX12_readsHeights_X12 (Nat.le_of_ble_eq_true rfl) ((mM_0 cI cZ ad) _) rfl (by decide) fX12_readsHeights_98 rfl dX12_readsHeights_79 ?_
    refine k_aload_n K dX12_readsHeights_82 0 rfl ?_
    refine k_get K 0 12 21 iX12_readsHeights_X12 (Nat.le_of_ble_eq_true rfl) ((mM_0 cI cZ ad) _) rfl (by decide) fX12_readsHeights_101 rfl dX12_readsHeights_83 ?_
    refine k_imul K dX12_readsHeights_86 ?_
    refine k_icmp_ge (tgt := 165) K dX12_readsHeights_87 (by decide) (fun q => ?_) (fun q => ?_)
    · have h := if_f q h
      refine k_aload_n K dX12_readsHeights_165 0 rfl ?_
      obtain ⟨⟨r20, s21⟩, e22, h⟩ := bd_some h
      dsimp only at h
      refine k_callVv K 0 12 (Nat.le_of_ble_eq_true rfl) ((mM_0 cI cZ ad) _) rfl (ctX12_token e22) (cwV 0 K.ts gX12_readsHeights_X12_token rfl rfl rfl hVX12_token ⟨Nat.le_of_ble_eq_true rfl, Nat.le_of_ble_eq_true rfl⟩) rfl rfl (Nat.le_of_ble_eq_true rfl) dX12_readsHeights_166 ?_
      refine k_iconst (x := 1) K dX12_readsHeights_169 (by decide) ?_
      exact ret_i hR h dX12_readsHeights_170 zb_1
    · have h := if_t q h
      refine k_aload_n K dX12_readsHeights_90 0 rfl ?_
      obtain ⟨⟨r23, s24⟩, e25, h⟩ := bd_some h
      dsimp only at h
      refine k_callVv K 0 12 (Nat.le_of_ble_eq_true rfl) ((mM_0 cI cZ ad) _) rfl (ctX12_skip e25) (cwV 0 K.ts gX12_readsHeights_X12_skip rfl rfl rfl hVX12_skip ⟨Nat.le_of_ble_eq_true rfl, Nat.le_of_ble_eq_true rfl⟩) rfl rfl (Nat.le_of_ble_eq_true rfl) dX12_readsHeights_91 ?_
      refine k_aload_n K dX12_readsHeights_94 0 rfl ?_
      refine k_aload_n K dX12_readsHeights_95 0 rfl ?_
      refine k_get K 0 12 17 iX12_readsHeights_X12 (Nat.le_of_ble_eq_true rfl) ((mM_0 cI cZ ad) _) rfl (by decide) fX12_readsHeights_75 rfl dX12_readsHeights_96 ?_
      have h := lt_some h
      refine k_putI K 0 12 18 tyX12 tyX12_ok nmX12 iX12_readsHeights_X12 (Nat.le_of_ble_eq_true rfl) ((mM_0 cI cZ ad) _) rfl (by decide) fX12_readsHeights_81 rfl (by decide +kernel) (Nat.le_of_ble_eq_true rfl) (pM_0_18 cI cZ ad _ _) dX12_readsHeights_99 ?_
      refine k_aload_n K dX12_readsHeights_102 0 rfl ?_
      refine k_get K 0 12 17 iX12_readsHeights_X12 (Nat.le_of_ble_eq_true rfl) ((mM_0 cI cZ ad) _) rfl (by decide) fX12_readsHeights_75 rfl dX12_readsHeights_103 ?_
      refine k_aload_n K dX12_readsHeights_106 0 rfl ?_
      refine k_get K 0 12 3 iX12_readsHeights_X12 (Nat.le_of_ble_eq_true rfl) ((mM_0 cI cZ ad) _) rfl (by decide) fX12_readsHeights_72 rfl dX12_readsHeights_107 ?_
      refine k_icmp_eq (tgt := 129) K dX12_readsHeights_110 (by decide) (fun q => ?_) (fun q => ?_)
      · have h := if_t q h
        refine k_iconst (x := 0) K dX12_readsHeights_129 (by decide) ?_
        exact ret_i hR h dX12_readsHeights_130 zb_0
      · have h := if_f q h
        refine k_aload_n K dX12_readsHeights_113 0 rfl ?_
        refine k_get K 0 12 2 iX12_readsHeights_X12 (Nat.le_of_ble_eq_true rfl) ((mM_0 cI cZ ad) _) rfl (by decide) fX12_readsHeights_17 rfl dX12_readsHeights_114 ?_
        refine k_aload_n K dX12_readsHeights_117 0 rfl ?_
        refine k_get K 0 12 17 iX12_readsHeights_X12 (Nat.le_of_ble_eq_true rfl) ((mM_0 cI cZ ad) _) rfl (by decide) fX12_readsHeights_75 rfl dX12_readsHeights_118 ?_
        obtain ⟨g27, h⟩ := gd_some h
        refine k_ild K 3 0 (Nat.le_of_ble_eq_true rfl) ((mM_3 cI cZ ad) _) rfl g27 dX12_readsHeights_121 ?_
        obtain ⟨⟨r28, s29⟩, e30, h⟩ := bd_some h
        dsimp only at h
        refine k_callSi K (ctX12_sort e30) (va_cwS 1 K.ts gX12_readsHeights_X12_sort rfl rfl rfl hSX12_sort ⟨Nat.le_of_ble_eq_true rfl, Nat.le_of_ble_eq_true rfl⟩) rfl rfl (Nat.le_of_ble_eq_true rfl) dX12_readsHeights_122 ?_
        refine k_iconst (x := 2) K dX12_readsHeights_125 (by decide) ?_
        refine k_icmp_eq (tgt := 131) K dX12_readsHeights_126 (by decide) (fun q => ?_) (fun q => ?_)
        · have h := if_t q h
          refine k_aload_n K dX12_readsHeights_131 0 rfl ?_
          refine k_get K 0 12 22 iX12_readsHeights_X12 (Nat.le_of_ble_eq_true rfl) ((mM_0 cI cZ ad) _) rfl (by decide) fX12_readsHeights_41 rfl dX12_readsHeights_132 ?_
          refine k_iload_n K dX12_readsHeights_135 1 rfl ?_
          refine k_aload_n K dX12_readsHeights_136 0 rfl ?_
          refine k_get K 0 12 2 iX12_readsHeights_X12 (Nat.le_of_ble_eq_true rfl) ((mM_0 cI cZ ad) _) rfl (by decide) fX12_readsHeights_17 rfl dX12_readsHeights_137 ?_
          refine k_aload_n K dX12_readsHeights_140 0 rfl ?_
          refine k_get K 0 12 17 iX12_readsHeights_X12 (Nat.le_of_ble_eq_true rfl) ((mM_0 cI cZ ad) _) rfl (by decide) fX12_readsHeights_75 rfl dX12_readsHeights_141 ?_
          obtain ⟨g31, h⟩ := gd_some h
          refine k_ild K 3 0 (Nat.le_of_ble_eq_true rfl) ((mM_3 cI cZ ad) _) rfl g31 dX12_readsHeights_144 ?_
          refine k_bipush (x := 48) K dX12_readsHeights_145 (by decide) ?_
          refine k_isub K dX12_readsHeights_147 ?_
          obtain ⟨g32, h⟩ := gd_some h
          have h := lt_some h
          refine k_ist K 11 0 (Nat.le_of_ble_eq_true rfl) (mM_11 cI cZ ad) rfl g32 dX12_readsHeights_148 ?_
          refine k_aload_n K dX12_readsHeights_149 0 rfl ?_
          refine k_dup K dX12_readsHeights_150 rfl ?_
          refine k_get K 0 12 17 iX12_readsHeights_X12 (Nat.le_of_ble_eq_true rfl) ((mM_0 cI cZ ad) _) rfl (by decide) fX12_readsHeights_75 rfl dX12_readsHeights_151 ?_
          refine k_iconst (x := 1) K dX12_readsHeights_154 (by decide) ?_
          refine k_iadd K dX12_readsHeights_155 ?_
          have h := lt_some h
          refine k_putI K 0 12 17 tyX12 tyX12_ok nmX12 iX12_readsHeights_X12 (Nat.le_of_ble_eq_true rfl) ((mM_0 cI cZ ad) _) rfl (by decide) fX12_readsHeights_75 rfl (by decide +kernel) (Nat.le_of_ble_eq_true rfl) (pM_0_17 cI cZ ad _ _) dX12_readsHeights_156 ?_
          have h := lt_some h
          refine k_iinc (lv' := [(1, _), (0, _)]) K dX12_readsHeights_159 1 rfl (v := _ + 1) (by rfl) (by rw [hn]; decide) rfl ?_
          refine k_goto (tgt := 77) K dX12_readsHeights_162 (by decide) ?_
          exact k_sub [1, 0] rfl (ih _ _ h)
        · have h := if_f q h
          refine k_iconst (x := 0) K dX12_readsHeights_129 (by decide) ?_
          exact ret_i hR h dX12_readsHeights_130 zb_0
set_option maxRecDepth 100000 in
set_option maxHeartbeats 4000000 in
theorem ctX12_readsHeights {l : Launch} {D : va_G} {cI cZ : ClassId} {ad : Nat → Nat} {σ : St} {res : (Int32 × St)} (h : mX12_readsHeights σ = some res) : Ci l yX12_readsHeights wsX12_readsHeights 2 49 D vwCl (tysM cI cZ) nwM (mkM cI cZ ad) ad 17 [.ref (ad 0)] σ res := by
  refine c_bool (cc := cX12_readsHeights) (maxL := 2) (by decide) rfl (Nat.le_of_ble_eq_true rfl) fun a b hn K hR => ?_
  unfold mX12_readsHeights at h
  have K : KS (GM l 2 49 D cI cZ ad a b (w_A ad 17)) cX12_readsHeights RX12 wsX12_readsHeights (some .boolean) := K
  have hn : x_n (GM l 2 49 D cI cZ ad a b (w_A ad 17)) = 2 := hn
  refine k_sub [0] rfl ?_
  refine k_aload_n K dX12_readsHeights_0 0 rfl ?_
  refine k_get K 0 12 29 iX12_readsHeights_X12 (Nat.le_of_ble_eq_true rfl) ((mM_0 cI cZ ad) _) rfl (by decide) fX12_readsHeights_53 rfl dX12_readsHeights_1 ?_
  refine k_iconst (x := 0) K dX12_readsHeights_4 (by decide) ?_
  refine k_aload_n K dX12_readsHeights_5 0 rfl ?_
  refine k_iconst (x := 1) K dX12_readsHeights_6 (by decide) ?_
  refine k_bipush (x := 6) K dX12_readsHeights_7 (by decide) ?_
  obtain ⟨⟨r1, s2⟩, e3, h⟩ := bd_some h
  dsimp only at h
  refine k_callVi K 0 12 (Nat.le_of_ble_eq_true rfl) ((mM_0 cI cZ ad) _) rfl (ctX12_number e3) (cwV 2 K.ts gX12_readsHeights_X12_number rfl rfl rfl hVX12_number ⟨Nat.le_of_ble_eq_true rfl, Nat.le_of_ble_eq_true rfl⟩) rfl rfl (Nat.le_of_ble_eq_true rfl) dX12_readsHeights_9 ?_
  obtain ⟨g4, h⟩ := gd_some h
  have h := lt_some h
  refine k_ist K 15 0 (Nat.le_of_ble_eq_true rfl) (mM_15 cI cZ ad) rfl g4 dX12_readsHeights_12 ?_
  refine k_aload_n K dX12_readsHeights_13 0 rfl ?_
  refine k_get K 0 12 29 iX12_readsHeights_X12 (Nat.le_of_ble_eq_true rfl) ((mM_0 cI cZ ad) _) rfl (by decide) fX12_readsHeights_53 rfl dX12_readsHeights_14 ?_
  refine k_iconst (x := 0) K dX12_readsHeights_17 (by decide) ?_
  obtain ⟨g6, h⟩ := gd_some h
  refine k_ild K 15 0 (Nat.le_of_ble_eq_true rfl) ((mM_15 cI cZ ad) _) rfl g6 dX12_readsHeights_18 ?_
  refine k_bipush (x := (-9)) K dX12_readsHeights_19 (by decide) ?_
  refine k_icmp_ne (tgt := 26) K dX12_readsHeights_21 (by decide) (fun q => ?_) (fun q => ?_)
  · have h := if_f q h
    refine k_aload_n K dX12_readsHeights_26 0 rfl ?_
    obtain ⟨⟨r7, s8⟩, e9, h⟩ := bd_some h
    dsimp only at h
    refine k_callVv K 0 12 (Nat.le_of_ble_eq_true rfl) ((mM_0 cI cZ ad) _) rfl (ctX12_token e9) (cwV 0 K.ts gX12_readsHeights_X12_token rfl rfl rfl hVX12_token ⟨Nat.le_of_ble_eq_true rfl, Nat.le_of_ble_eq_true rfl⟩) rfl rfl (Nat.le_of_ble_eq_true rfl) dX12_readsHeights_27 ?_
    refine k_aload_n K dX12_readsHeights_30 0 rfl ?_
    refine k_get K 0 12 29 iX12_readsHeights_X12 (Nat.le_of_ble_eq_true rfl) ((mM_0 cI cZ ad) _) rfl (by decide) fX12_readsHeights_53 rfl dX12_readsHeights_31 ?_
    refine k_iconst (x := 1) K dX12_readsHeights_34 (by decide) ?_
    refine k_aload_n K dX12_readsHeights_35 0 rfl ?_
    refine k_iconst (x := 1) K dX12_readsHeights_36 (by decide) ?_
    refine k_iconst (x := 5) K dX12_readsHeights_37 (by decide) ?_
    obtain ⟨⟨r10, s11⟩, e12, h⟩ := bd_some h
    dsimp only at h
    refine k_callVi K 0 12 (Nat.le_of_ble_eq_true rfl) ((mM_0 cI cZ ad) _) rfl (ctX12_number e12) (cwV 2 K.ts gX12_readsHeights_X12_number rfl rfl rfl hVX12_number ⟨Nat.le_of_ble_eq_true rfl, Nat.le_of_ble_eq_true rfl⟩) rfl rfl (Nat.le_of_ble_eq_true rfl) dX12_readsHeights_38 ?_
    obtain ⟨g13, h⟩ := gd_some h
    have h := lt_some h
    refine k_ist K 15 0 (Nat.le_of_ble_eq_true rfl) (mM_15 cI cZ ad) rfl g13 dX12_readsHeights_41 ?_
    refine k_aload_n K dX12_readsHeights_42 0 rfl ?_
    refine k_get K 0 12 29 iX12_readsHeights_X12 (Nat.le_of_ble_eq_true rfl) ((mM_0 cI cZ ad) _) rfl (by decide) fX12_readsHeights_53 rfl dX12_readsHeights_43 ?_
    refine k_iconst (x := 1) K dX12_readsHeights_46 (by decide) ?_
    obtain ⟨g15, h⟩ := gd_some h
    refine k_ild K 15 0 (Nat.le_of_ble_eq_true rfl) ((mM_15 cI cZ ad) _) rfl g15 dX12_readsHeights_47 ?_
    refine k_bipush (x := (-9)) K dX12_readsHeights_48 (by decide) ?_
    refine k_icmp_ne (tgt := 55) K dX12_readsHeights_50 (by decide) (fun q => ?_) (fun q => ?_)
    · have h := if_f q h
      refine k_aload_n K dX12_readsHeights_55 0 rfl ?_
      refine k_aload_n K dX12_readsHeights_56 0 rfl ?_
      refine k_get K 0 12 29 iX12_readsHeights_X12 (Nat.le_of_ble_eq_true rfl) ((mM_0 cI cZ ad) _) rfl (by decide) fX12_readsHeights_53 rfl dX12_readsHeights_57 ?_
      refine k_iconst (x := 0) K dX12_readsHeights_60 (by decide) ?_
      obtain ⟨g16, h⟩ := gd_some h
      refine k_ild K 15 0 (Nat.le_of_ble_eq_true rfl) ((mM_15 cI cZ ad) _) rfl g16 dX12_readsHeights_61 ?_
      have h := lt_some h
      refine k_putI K 0 12 20 tyX12 tyX12_ok nmX12 iX12_readsHeights_X12 (Nat.le_of_ble_eq_true rfl) ((mM_0 cI cZ ad) _) rfl (by decide) fX12_readsHeights_98 rfl (by decide +kernel) (Nat.le_of_ble_eq_true rfl) (pM_0_20 cI cZ ad _ _) dX12_readsHeights_62 ?_
      refine k_aload_n K dX12_readsHeights_65 0 rfl ?_
      refine k_aload_n K dX12_readsHeights_66 0 rfl ?_
      refine k_get K 0 12 29 iX12_readsHeights_X12 (Nat.le_of_ble_eq_true rfl) ((mM_0 cI cZ ad) _) rfl (by decide) fX12_readsHeights_53 rfl dX12_readsHeights_67 ?_
      refine k_iconst (x := 1) K dX12_readsHeights_70 (by decide) ?_
      obtain ⟨g18, h⟩ := gd_some h
      refine k_ild K 15 0 (Nat.le_of_ble_eq_true rfl) ((mM_15 cI cZ ad) _) rfl g18 dX12_readsHeights_71 ?_
      have h := lt_some h
      refine k_putI K 0 12 21 tyX12 tyX12_ok nmX12 iX12_readsHeights_X12 (Nat.le_of_ble_eq_true rfl) ((mM_0 cI cZ ad) _) rfl (by decide) fX12_readsHeights_101 rfl (by decide +kernel) (Nat.le_of_ble_eq_true rfl) (pM_0_21 cI cZ ad _ _) dX12_readsHeights_72 ?_
      refine k_iconst (x := 0) K dX12_readsHeights_75 (by decide) ?_
      refine k_istore_n (lv' := [(1, _), (0, _)]) K dX12_readsHeights_76 (by rw [hn]; decide) rfl ?_
      exact k_sub [1, 0] rfl (wX12_readsHeights_77 K hn hR FU _ _ h)
    · have h := if_t q h
      refine k_iconst (x := 0) K dX12_readsHeights_53 (by decide) ?_
      exact ret_i hR h dX12_readsHeights_54 zb_0
  · have h := if_t q h
    refine k_iconst (x := 0) K dX12_readsHeights_24 (by decide) ?_
    exact ret_i hR h dX12_readsHeights_25 zb_0
-- X12_readBit (0, 0)
theorem iX12_readBit_X12 : ∀ w ∈ wsX120, w ∈ wsX12_readBit := fun _ h => List.mem_cons_of_mem _ (List.mem_append_right _ h)
theorem fX12_readBit_53 : Cond.fieldLink RX12 53 "SlopeCoinsModel" "numbers" "[I" ∈ wsX12_readBit := by decide +kernel
theorem fX12_readBit_98 : Cond.fieldLink RX12 98 "SlopeCoinsModel" "readWide" "I" ∈ wsX12_readBit := by decide +kernel
set_option maxRecDepth 100000 in
set_option maxHeartbeats 4000000 in
theorem ctX12_readBit {l : Launch} {D : va_G} {cI cZ : ClassId} {ad : Nat → Nat} {σ : St} {res : (Int32 × St)} (h : mX12_readBit σ = some res) : Ci l yX12_readBit wsX12_readBit 0 0 D vwCl (tysM cI cZ) nwM (mkM cI cZ ad) ad 17 [.ref (ad 0)] σ res := by
  refine c_int (cc := cX12_readBit) (maxL := 1) (by decide) rfl (Nat.le_of_ble_eq_true rfl) fun a b hn K hR => ?_
  unfold mX12_readBit at h
  have K : KS (GM l 0 0 D cI cZ ad a b (w_A ad 17)) cX12_readBit RX12 wsX12_readBit (some .int) := K
  have hn : x_n (GM l 0 0 D cI cZ ad a b (w_A ad 17)) = 1 := hn
  refine k_sub [0] rfl ?_
  refine k_aload_n K dX12_readBit_0 0 rfl ?_
  refine k_get K 0 12 20 iX12_readBit_X12 (Nat.le_of_ble_eq_true rfl) ((mM_0 cI cZ ad) _) rfl (by decide) fX12_readBit_98 rfl dX12_readBit_1 ?_
  refine k_aload_n K dX12_readBit_4 0 rfl ?_
  refine k_get K 0 12 29 iX12_readBit_X12 (Nat.le_of_ble_eq_true rfl) ((mM_0 cI cZ ad) _) rfl (by decide) fX12_readBit_53 rfl dX12_readBit_5 ?_
  refine k_iconst (x := 1) K dX12_readBit_8 (by decide) ?_
  obtain ⟨g1, h⟩ := gd_some h
  refine k_ild K 15 0 (Nat.le_of_ble_eq_true rfl) ((mM_15 cI cZ ad) _) rfl g1 dX12_readBit_9 ?_
  refine k_imul K dX12_readBit_10 ?_
  refine k_aload_n K dX12_readBit_11 0 rfl ?_
  refine k_get K 0 12 29 iX12_readBit_X12 (Nat.le_of_ble_eq_true rfl) ((mM_0 cI cZ ad) _) rfl (by decide) fX12_readBit_53 rfl dX12_readBit_12 ?_
  refine k_iconst (x := 0) K dX12_readBit_15 (by decide) ?_
  obtain ⟨g2, h⟩ := gd_some h
  refine k_ild K 15 0 (Nat.le_of_ble_eq_true rfl) ((mM_15 cI cZ ad) _) rfl g2 dX12_readBit_16 ?_
  refine k_iadd K dX12_readBit_17 ?_
  exact ret_i hR h dX12_readBit_18 trivial
-- X12_readsCell (3, 72)
theorem iX12_readsCell_X12 : ∀ w ∈ wsX120, w ∈ wsX12_readsCell := fun _ h => List.mem_cons_of_mem _ (List.mem_append_right _ h)
theorem fX12_readsCell_98 : Cond.fieldLink RX12 98 "SlopeCoinsModel" "readWide" "I" ∈ wsX12_readsCell := by decide +kernel
set_option maxRecDepth 100000 in
set_option maxHeartbeats 4000000 in
theorem ctX12_readsCell {l : Launch} {D : va_G} {cI cZ : ClassId} {ad : Nat → Nat} {σ : St} {res : (Int32 × St)} (h : mX12_readsCell σ = some res) : Ci l yX12_readsCell wsX12_readsCell 3 72 D vwCl (tysM cI cZ) nwM (mkM cI cZ ad) ad 17 [.ref (ad 0)] σ res := by
  refine c_bool (cc := cX12_readsCell) (maxL := 1) (by decide) rfl (Nat.le_of_ble_eq_true rfl) fun a b hn K hR => ?_
  unfold mX12_readsCell at h
  have K : KS (GM l 3 72 D cI cZ ad a b (w_A ad 17)) cX12_readsCell RX12 wsX12_readsCell (some .boolean) := K
  have hn : x_n (GM l 3 72 D cI cZ ad a b (w_A ad 17)) = 1 := hn
  refine k_sub [0] rfl ?_
  refine k_aload_n K dX12_readsCell_0 0 rfl ?_
  refine k_iconst (x := 0) K dX12_readsCell_1 (by decide) ?_
  refine k_iconst (x := 0) K dX12_readsCell_2 (by decide) ?_
  refine k_aload_n K dX12_readsCell_3 0 rfl ?_
  refine k_get K 0 12 20 iX12_readsCell_X12 (Nat.le_of_ble_eq_true rfl) ((mM_0 cI cZ ad) _) rfl (by decide) fX12_readsCell_98 rfl dX12_readsCell_4 ?_
  refine k_iconst (x := 1) K dX12_readsCell_7 (by decide) ?_
  refine k_isub K dX12_readsCell_8 ?_
  obtain ⟨⟨r1, s2⟩, e3, h⟩ := bd_some h
  dsimp only at h
  refine k_callVi K 0 12 (Nat.le_of_ble_eq_true rfl) ((mM_0 cI cZ ad) _) rfl (ctX12_reads e3) (cwV 3 K.ts gX12_readsCell_X12_reads rfl rfl rfl hVX12_reads ⟨Nat.le_of_ble_eq_true rfl, Nat.le_of_ble_eq_true rfl⟩) rfl rfl (Nat.le_of_ble_eq_true rfl) dX12_readsCell_9 ?_
  obtain ⟨g4, h⟩ := gd_some h
  exact ret_i hR h dX12_readsCell_12 g4
-- X12_readsKerb (4, 92)
theorem iX12_readsKerb_X12 : ∀ w ∈ wsX120, w ∈ wsX12_readsKerb := fun _ h => List.mem_cons_of_mem _ (List.mem_append_right _ h)
theorem fX12_readsKerb_44 : Cond.fieldLink RX12 44 "SlopeCoinsModel" "readKerbs" "[I" ∈ wsX12_readsKerb := by decide +kernel
theorem fX12_readsKerb_53 : Cond.fieldLink RX12 53 "SlopeCoinsModel" "numbers" "[I" ∈ wsX12_readsKerb := by decide +kernel
theorem fX12_readsKerb_98 : Cond.fieldLink RX12 98 "SlopeCoinsModel" "readWide" "I" ∈ wsX12_readsKerb := by decide +kernel
theorem fX12_readsKerb_101 : Cond.fieldLink RX12 101 "SlopeCoinsModel" "readHigh" "I" ∈ wsX12_readsKerb := by decide +kernel
set_option maxRecDepth 100000 in
set_option maxHeartbeats 4000000 in
theorem wX12_readsKerb_108 {l : Launch} {D : va_G} {cI cZ : ClassId} {ad : Nat → Nat} {a : Program × Env × State × MethodId} {b : Array Value × List Frame × Method × Code × (State → Prop) × Nat} {A : Nat → Prop} (K : KS (GM l 4 92 D cI cZ ad a b A) cX12_readsKerb RX12 wsX12_readsKerb (some .boolean)) (hn : x_n (GM l 4 92 D cI cZ ad a b A) = 3) {res : (Int32 × St)} (hR : HRi (GM l 4 92 D cI cZ ad a b A) cX12_readsKerb zb res) : ∀ (v1 : Int32), ∀ (v2 : Int32), ∀ (t0 : Int32), ∀ (σ : St), mX12_readsKerb_108 v1 v2 t0 σ = some res → Wk (GM l 4 92 D cI cZ ad a b A) 108 [(0, .ref (ad 0)), (1, .int v1), (2, .int v2)] [.int t0, .ref (ad 12)] σ := by
  intro v1 v2 t0 σ h
  unfold mX12_readsKerb_108 at h
  refine k_dup2 K dX12_readsKerb_108 rfl rfl ?_
  obtain ⟨g17, h⟩ := gd_some h
  refine k_ild K 12 0 (Nat.le_of_ble_eq_true rfl) ((mM_12 cI cZ ad) _) rfl g17 dX12_readsKerb_109 ?_
  refine k_iconst (x := 1) K dX12_readsKerb_110 (by decide) ?_
  refine k_aload_n K dX12_readsKerb_111 0 rfl ?_
  refine k_get K 0 12 20 iX12_readsKerb_X12 (Nat.le_of_ble_eq_true rfl) ((mM_0 cI cZ ad) _) rfl (by decide) fX12_readsKerb_98 rfl dX12_readsKerb_112 ?_
  refine k_iload_n K dX12_readsKerb_115 2 rfl ?_
  refine k_imul K dX12_readsKerb_116 ?_
  refine k_iload_n K dX12_readsKerb_117 1 rfl ?_
  refine k_iadd K dX12_readsKerb_118 ?_
  refine k_ishl K dX12_readsKerb_119 ?_
  refine k_ior K dX12_readsKerb_120 ?_
  obtain ⟨g18, h⟩ := gd_some h
  have h := lt_some h
  refine k_ist K 12 0 (Nat.le_of_ble_eq_true rfl) (mM_12 cI cZ ad) rfl g18 dX12_readsKerb_121 ?_
  refine k_iconst (x := 1) K dX12_readsKerb_122 (by decide) ?_
  exact ret_i hR h dX12_readsKerb_123 zb_1
set_option maxRecDepth 100000 in
set_option maxHeartbeats 4000000 in
theorem wX12_readsKerb_77 {l : Launch} {D : va_G} {cI cZ : ClassId} {ad : Nat → Nat} {a : Program × Env × State × MethodId} {b : Array Value × List Frame × Method × Code × (State → Prop) × Nat} {A : Nat → Prop} (K : KS (GM l 4 92 D cI cZ ad a b A) cX12_readsKerb RX12 wsX12_readsKerb (some .boolean)) (hn : x_n (GM l 4 92 D cI cZ ad a b A) = 3) {res : (Int32 × St)} (hR : HRi (GM l 4 92 D cI cZ ad a b A) cX12_readsKerb zb res) : ∀ (v1 : Int32), ∀ (t0 : Int32), ∀ (t1 : Int32), ∀ (σ : St), mX12_readsKerb_77 v1 t0 t1 σ = some res → Wk (GM l 4 92 D cI cZ ad a b A) 77 [(0, .ref (ad 0)), (1, .int v1)] [.int t0, .int t1] σ := by
  intro v1 t0 t1 σ h
  unfold mX12_readsKerb_77 at h
  refine k_isub K dX12_readsKerb_77 ?_
  have h := lt_some h
  refine k_istore_n (lv' := [(2, _), (0, _), (1, _)]) K dX12_readsKerb_78 (by rw [hn]; decide) rfl ?_
  refine k_iload_n K dX12_readsKerb_79 2 rfl ?_
  refine k_if_lt (tgt := 122) K dX12_readsKerb_80 (by decide) (fun q => ?_) (fun q => ?_)
  · have h := if_t q h
    refine k_iconst (x := 1) K dX12_readsKerb_122 (by decide) ?_
    exact ret_i hR h dX12_readsKerb_123 zb_1
  · have h := if_f q h
    refine k_iload_n K dX12_readsKerb_83 0 rfl ?_
    refine k_if_lt (tgt := 122) K dX12_readsKerb_84 (by decide) (fun q => ?_) (fun q => ?_)
    · have h := if_t q h
      refine k_iconst (x := 1) K dX12_readsKerb_122 (by decide) ?_
      exact ret_i hR h dX12_readsKerb_123 zb_1
    · have h := if_f q h
      refine k_aload_n K dX12_readsKerb_87 1 rfl ?_
      refine k_get K 0 12 23 iX12_readsKerb_X12 (Nat.le_of_ble_eq_true rfl) ((mM_0 cI cZ ad) _) rfl (by decide) fX12_readsKerb_44 rfl dX12_readsKerb_88 ?_
      refine k_aload_n K dX12_readsKerb_91 1 rfl ?_
      refine k_get K 0 12 29 iX12_readsKerb_X12 (Nat.le_of_ble_eq_true rfl) ((mM_0 cI cZ ad) _) rfl (by decide) fX12_readsKerb_53 rfl dX12_readsKerb_92 ?_
      refine k_iconst (x := 2) K dX12_readsKerb_95 (by decide) ?_
      obtain ⟨g16, h⟩ := gd_some h
      refine k_ild K 15 0 (Nat.le_of_ble_eq_true rfl) ((mM_15 cI cZ ad) _) rfl g16 dX12_readsKerb_96 ?_
      refine k_iconst (x := 2) K dX12_readsKerb_97 (by decide) ?_
      refine k_irem K dX12_readsKerb_98 (by decide) ?_
      refine k_iconst (x := 1) K dX12_readsKerb_99 (by decide) ?_
      refine k_icmp_ne (tgt := 107) K dX12_readsKerb_100 (by decide) (fun q => ?_) (fun q => ?_)
      · have h := if_f q h
        refine k_iconst (x := 1) K dX12_readsKerb_107 (by decide) ?_
        exact k_sub [1, 2, 0] rfl (wX12_readsKerb_108 K hn hR _ _ _ _ h)
      · have h := if_t q h
        refine k_iconst (x := 0) K dX12_readsKerb_103 (by decide) ?_
        refine k_goto (tgt := 108) K dX12_readsKerb_104 (by decide) ?_
        exact k_sub [1, 2, 0] rfl (wX12_readsKerb_108 K hn hR _ _ _ _ h)
set_option maxRecDepth 100000 in
set_option maxHeartbeats 4000000 in
theorem wX12_readsKerb_55 {l : Launch} {D : va_G} {cI cZ : ClassId} {ad : Nat → Nat} {a : Program × Env × State × MethodId} {b : Array Value × List Frame × Method × Code × (State → Prop) × Nat} {A : Nat → Prop} (K : KS (GM l 4 92 D cI cZ ad a b A) cX12_readsKerb RX12 wsX12_readsKerb (some .boolean)) (hn : x_n (GM l 4 92 D cI cZ ad a b A) = 3) {res : (Int32 × St)} (hR : HRi (GM l 4 92 D cI cZ ad a b A) cX12_readsKerb zb res) : ∀ (t0 : Int32), ∀ (t1 : Int32), ∀ (σ : St), mX12_readsKerb_55 t0 t1 σ = some res → Wk (GM l 4 92 D cI cZ ad a b A) 55 [(0, .ref (ad 0))] [.int t0, .int t1] σ := by
  intro t0 t1 σ h
  unfold mX12_readsKerb_55 at h
  refine k_isub K dX12_readsKerb_55 ?_
  have h := lt_some h
  refine k_istore_n (lv' := [(1, _), (0, _)]) K dX12_readsKerb_56 (by rw [hn]; decide) rfl ?_
  refine k_aload_n K dX12_readsKerb_57 1 rfl ?_
  refine k_get K 0 12 29 iX12_readsKerb_X12 (Nat.le_of_ble_eq_true rfl) ((mM_0 cI cZ ad) _) rfl (by decide) fX12_readsKerb_53 rfl dX12_readsKerb_58 ?_
  refine k_iconst (x := 1) K dX12_readsKerb_61 (by decide) ?_
  obtain ⟨g13, h⟩ := gd_some h
  refine k_ild K 15 0 (Nat.le_of_ble_eq_true rfl) ((mM_15 cI cZ ad) _) rfl g13 dX12_readsKerb_62 ?_
  refine k_aload_n K dX12_readsKerb_63 1 rfl ?_
  refine k_get K 0 12 29 iX12_readsKerb_X12 (Nat.le_of_ble_eq_true rfl) ((mM_0 cI cZ ad) _) rfl (by decide) fX12_readsKerb_53 rfl dX12_readsKerb_64 ?_
  refine k_iconst (x := 2) K dX12_readsKerb_67 (by decide) ?_
  obtain ⟨g14, h⟩ := gd_some h
  refine k_ild K 15 0 (Nat.le_of_ble_eq_true rfl) ((mM_15 cI cZ ad) _) rfl g14 dX12_readsKerb_68 ?_
  refine k_if_ne (tgt := 76) K dX12_readsKerb_69 (by decide) (fun q => ?_) (fun q => ?_)
  · have h := if_f q h
    refine k_iconst (x := 0) K dX12_readsKerb_76 (by decide) ?_
    exact k_sub [1, 0] rfl (wX12_readsKerb_77 K hn hR _ _ _ _ h)
  · have h := if_t q h
    refine k_iconst (x := 1) K dX12_readsKerb_72 (by decide) ?_
    refine k_goto (tgt := 77) K dX12_readsKerb_73 (by decide) ?_
    exact k_sub [1, 0] rfl (wX12_readsKerb_77 K hn hR _ _ _ _ h)
set_option maxRecDepth 100000 in
set_option maxHeartbeats 4000000 in
theorem ctX12_readsKerb {l : Launch} {D : va_G} {cI cZ : ClassId} {ad : Nat → Nat} {σ : St} {res : (Int32 × St)} (h : mX12_readsKerb σ = some res) : Ci l yX12_readsKerb wsX12_readsKerb 4 92 D vwCl (tysM cI cZ) nwM (mkM cI cZ ad) ad 17 [.ref (ad 0)] σ res := by
  refine c_bool (cc := cX12_readsKerb) (maxL := 3) (by decide) rfl (Nat.le_of_ble_eq_true rfl) fun a b hn K hR => ?_
  unfold mX12_readsKerb at h
  have K : KS (GM l 4 92 D cI cZ ad a b (w_A ad 17)) cX12_readsKerb RX12 wsX12_readsKerb (some .boolean) := K
  have hn : x_n (GM l 4 92 D cI cZ ad a b (w_A ad 17)) = 3 := hn
  refine k_sub [0] rfl ?_
  refine k_aload_n K dX12_readsKerb_0 0 rfl ?_
  obtain ⟨⟨r1, s2⟩, e3, h⟩ := bd_some h
  dsimp only at h
  refine k_callVi K 0 12 (Nat.le_of_ble_eq_true rfl) ((mM_0 cI cZ ad) _) rfl (ctX12_readsCell e3) (cwV 0 K.ts gX12_readsKerb_X12_readsCell rfl rfl rfl hVX12_readsCell ⟨Nat.le_of_ble_eq_true rfl, Nat.le_of_ble_eq_true rfl⟩) rfl rfl (Nat.le_of_ble_eq_true rfl) dX12_readsKerb_1 ?_
  refine k_if_eq (tgt := 32) K dX12_readsKerb_4 (by decide) (fun q => ?_) (fun q => ?_)
  · have h := if_t q h
    refine k_iconst (x := 0) K dX12_readsKerb_32 (by decide) ?_
    exact ret_i hR h dX12_readsKerb_33 zb_0
  · have h := if_f q h
    refine k_aload_n K dX12_readsKerb_7 0 rfl ?_
    refine k_iconst (x := 1) K dX12_readsKerb_8 (by decide) ?_
    refine k_iconst (x := 0) K dX12_readsKerb_9 (by decide) ?_
    refine k_aload_n K dX12_readsKerb_10 0 rfl ?_
    refine k_get K 0 12 21 iX12_readsKerb_X12 (Nat.le_of_ble_eq_true rfl) ((mM_0 cI cZ ad) _) rfl (by decide) fX12_readsKerb_101 rfl dX12_readsKerb_11 ?_
    refine k_iconst (x := 1) K dX12_readsKerb_14 (by decide) ?_
    refine k_isub K dX12_readsKerb_15 ?_
    obtain ⟨⟨r4, s5⟩, e6, h⟩ := bd_some h
    dsimp only at h
    refine k_callVi K 0 12 (Nat.le_of_ble_eq_true rfl) ((mM_0 cI cZ ad) _) rfl (ctX12_reads e6) (cwV 3 K.ts gX12_readsKerb_X12_reads rfl rfl rfl hVX12_reads ⟨Nat.le_of_ble_eq_true rfl, Nat.le_of_ble_eq_true rfl⟩) rfl rfl (Nat.le_of_ble_eq_true rfl) dX12_readsKerb_16 ?_
    refine k_if_eq (tgt := 32) K dX12_readsKerb_19 (by decide) (fun q => ?_) (fun q => ?_)
    · have h := if_t q h
      refine k_iconst (x := 0) K dX12_readsKerb_32 (by decide) ?_
      exact ret_i hR h dX12_readsKerb_33 zb_0
    · have h := if_f q h
      refine k_aload_n K dX12_readsKerb_22 0 rfl ?_
      refine k_iconst (x := 2) K dX12_readsKerb_23 (by decide) ?_
      refine k_iconst (x := 0) K dX12_readsKerb_24 (by decide) ?_
      refine k_iconst (x := 3) K dX12_readsKerb_25 (by decide) ?_
      obtain ⟨⟨r7, s8⟩, e9, h⟩ := bd_some h
      dsimp only at h
      refine k_callVi K 0 12 (Nat.le_of_ble_eq_true rfl) ((mM_0 cI cZ ad) _) rfl (ctX12_reads e9) (cwV 3 K.ts gX12_readsKerb_X12_reads rfl rfl rfl hVX12_reads ⟨Nat.le_of_ble_eq_true rfl, Nat.le_of_ble_eq_true rfl⟩) rfl rfl (Nat.le_of_ble_eq_true rfl) dX12_readsKerb_26 ?_
      refine k_if_ne (tgt := 34) K dX12_readsKerb_29 (by decide) (fun q => ?_) (fun q => ?_)
      · have h := if_f q h
        refine k_aload_n K dX12_readsKerb_34 0 rfl ?_
        refine k_get K 0 12 29 iX12_readsKerb_X12 (Nat.le_of_ble_eq_true rfl) ((mM_0 cI cZ ad) _) rfl (by decide) fX12_readsKerb_53 rfl dX12_readsKerb_35 ?_
        refine k_iconst (x := 0) K dX12_readsKerb_38 (by decide) ?_
        obtain ⟨g10, h⟩ := gd_some h
        refine k_ild K 15 0 (Nat.le_of_ble_eq_true rfl) ((mM_15 cI cZ ad) _) rfl g10 dX12_readsKerb_39 ?_
        refine k_aload_n K dX12_readsKerb_40 0 rfl ?_
        refine k_get K 0 12 29 iX12_readsKerb_X12 (Nat.le_of_ble_eq_true rfl) ((mM_0 cI cZ ad) _) rfl (by decide) fX12_readsKerb_53 rfl dX12_readsKerb_41 ?_
        refine k_iconst (x := 2) K dX12_readsKerb_44 (by decide) ?_
        obtain ⟨g11, h⟩ := gd_some h
        refine k_ild K 15 0 (Nat.le_of_ble_eq_true rfl) ((mM_15 cI cZ ad) _) rfl g11 dX12_readsKerb_45 ?_
        refine k_iconst (x := 3) K dX12_readsKerb_46 (by decide) ?_
        refine k_icmp_ne (tgt := 54) K dX12_readsKerb_47 (by decide) (fun q => ?_) (fun q => ?_)
        · have h := if_f q h
          refine k_iconst (x := 0) K dX12_readsKerb_54 (by decide) ?_
          exact k_sub [0] rfl (wX12_readsKerb_55 K hn hR _ _ _ h)
        · have h := if_t q h
          refine k_iconst (x := 1) K dX12_readsKerb_50 (by decide) ?_
          refine k_goto (tgt := 55) K dX12_readsKerb_51 (by decide) ?_
          exact k_sub [0] rfl (wX12_readsKerb_55 K hn hR _ _ _ h)
      · have h := if_t q h
        refine k_iconst (x := 0) K dX12_readsKerb_32 (by decide) ?_
        exact ret_i hR h dX12_readsKerb_33 zb_0

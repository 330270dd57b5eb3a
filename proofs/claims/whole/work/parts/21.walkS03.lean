/-! walks, by program -/
-- X11_type (0, 0)
theorem iX11_type_X11 : ∀ w ∈ wsX110, w ∈ wsX11_type := fun _ h => List.mem_cons_of_mem _ (List.mem_append_right _ h)
theorem fX11_type_9 : Cond.fieldLink RX11 9 "SlopeCoins" "text" "[C" ∈ wsX11_type := by decide +kernel
theorem fX11_type_94 : Cond.fieldLink RX11 94 "SlopeCoins" "textLength" "I" ∈ wsX11_type := by decide +kernel
set_option maxRecDepth 100000 in
set_option maxHeartbeats 4000000 in
theorem ctX11_type {l : Launch} {D : va_G} {cI cZ cC cG cB : ClassId} {ad : Nat → Nat} {v1 : Int32} {σ : St} {res : (Int32 × St)} (h : mX11_type v1 σ = some res) : Ci l yX11_type wsX11_type 0 0 D vwCl (tysS cI cZ cC cG cB) nwS (mkS cI cZ cC cG cB ad) ad 75 [.ref (ad 0), .int v1] σ res := by
  refine c_int (cc := cX11_type) (maxL := 2) (by decide) rfl (Nat.le_of_ble_eq_true rfl) fun a b hn K hR => ?_
  unfold mX11_type at h
  have K : KS (GS l 0 0 D cI cZ cC cG cB ad a b (w_A ad 75)) cX11_type RX11 wsX11_type (some .int) := K
  have hn : x_n (GS l 0 0 D cI cZ cC cG cB ad a b (w_A ad 75)) = 2 := hn
  refine k_sub [0, 1] rfl ?_
  refine k_iload_n K dX11_type_0 1 rfl ?_
  refine k_if_lt (tgt := 11) K dX11_type_1 (by decide) (fun q => ?_) (fun q => ?_)
  · have h := if_t q h
    refine k_iconst (x := (-1)) K dX11_type_11 (by decide) ?_
    exact ret_i hR h dX11_type_12 trivial
  · have h := if_f q h
    refine k_iload_n K dX11_type_4 1 rfl ?_
    refine k_sipush (x := 255) K dX11_type_5 (by decide) ?_
    refine k_icmp_le (tgt := 13) K dX11_type_8 (by decide) (fun q => ?_) (fun q => ?_)
    · have h := if_f q h
      refine k_aload_n K dX11_type_13 0 rfl ?_
      refine k_get K 0 11 1 iX11_type_X11 (Nat.le_of_ble_eq_true rfl) ((mS_0 cI cZ cC cG cB ad) _) rfl (by decide) fX11_type_94 rfl dX11_type_14 ?_
      refine k_sipush (x := 200) K dX11_type_17 (by decide) ?_
      refine k_icmp_lt (tgt := 26) K dX11_type_20 (by decide) (fun q => ?_) (fun q => ?_)
      · have h := if_t q h
        refine k_aload_n K dX11_type_26 0 rfl ?_
        refine k_get K 0 11 0 iX11_type_X11 (Nat.le_of_ble_eq_true rfl) ((mS_0 cI cZ cC cG cB ad) _) rfl (by decide) fX11_type_9 rfl dX11_type_27 ?_
        refine k_aload_n K dX11_type_30 0 rfl ?_
        refine k_get K 0 11 1 iX11_type_X11 (Nat.le_of_ble_eq_true rfl) ((mS_0 cI cZ cC cG cB ad) _) rfl (by decide) fX11_type_94 rfl dX11_type_31 ?_
        refine k_iload_n K dX11_type_34 1 rfl ?_
        refine k_i2c K dX11_type_35 ?_
        obtain ⟨g1, h⟩ := gd_some h
        have h := lt_some h
        refine k_cst K 1 2 (Nat.le_of_ble_eq_true rfl) (mS_1 cI cZ cC cG cB ad) rfl g1 dX11_type_36 ?_
        refine k_aload_n K dX11_type_37 0 rfl ?_
        refine k_dup K dX11_type_38 rfl ?_
        refine k_get K 0 11 1 iX11_type_X11 (Nat.le_of_ble_eq_true rfl) ((mS_0 cI cZ cC cG cB ad) _) rfl (by decide) fX11_type_94 rfl dX11_type_39 ?_
        refine k_iconst (x := 1) K dX11_type_42 (by decide) ?_
        refine k_iadd K dX11_type_43 ?_
        have h := lt_some h
        refine k_putI K 0 11 1 tyX11 tyX11_ok nmX11 iX11_type_X11 (Nat.le_of_ble_eq_true rfl) ((mS_0 cI cZ cC cG cB ad) _) rfl (by decide) fX11_type_94 rfl (by decide +kernel) (Nat.le_of_ble_eq_true rfl) (pS_0_1 cI cZ cC cG cB ad _ _) dX11_type_44 ?_
        refine k_aload_n K dX11_type_47 0 rfl ?_
        refine k_get K 0 11 1 iX11_type_X11 (Nat.le_of_ble_eq_true rfl) ((mS_0 cI cZ cC cG cB ad) _) rfl (by decide) fX11_type_94 rfl dX11_type_48 ?_
        exact ret_i hR h dX11_type_51 trivial
      · have h := if_f q h
        refine k_bipush (x := (-3)) K dX11_type_23 (by decide) ?_
        exact ret_i hR h dX11_type_25 trivial
    · have h := if_t q h
      refine k_iconst (x := (-1)) K dX11_type_11 (by decide) ?_
      exact ret_i hR h dX11_type_12 trivial
-- X11_clear (0, 0)
theorem iX11_clear_X11 : ∀ w ∈ wsX110, w ∈ wsX11_clear := fun _ h => List.mem_cons_of_mem _ (List.mem_append_right _ h)
theorem fX11_clear_94 : Cond.fieldLink RX11 94 "SlopeCoins" "textLength" "I" ∈ wsX11_clear := by decide +kernel
set_option maxRecDepth 100000 in
set_option maxHeartbeats 4000000 in
theorem ctX11_clear {l : Launch} {D : va_G} {cI cZ cC cG cB : ClassId} {ad : Nat → Nat} {σ : St} {res : (Int32 × St)} (h : mX11_clear σ = some res) : Ci l yX11_clear wsX11_clear 0 0 D vwCl (tysS cI cZ cC cG cB) nwS (mkS cI cZ cC cG cB ad) ad 75 [.ref (ad 0)] σ res := by
  refine c_int (cc := cX11_clear) (maxL := 2) (by decide) rfl (Nat.le_of_ble_eq_true rfl) fun a b hn K hR => ?_
  unfold mX11_clear at h
  have K : KS (GS l 0 0 D cI cZ cC cG cB ad a b (w_A ad 75)) cX11_clear RX11 wsX11_clear (some .int) := K
  have hn : x_n (GS l 0 0 D cI cZ cC cG cB ad a b (w_A ad 75)) = 2 := hn
  refine k_sub [0] rfl ?_
  refine k_aload_n K dX11_clear_0 0 rfl ?_
  refine k_get K 0 11 1 iX11_clear_X11 (Nat.le_of_ble_eq_true rfl) ((mS_0 cI cZ cC cG cB ad) _) rfl (by decide) fX11_clear_94 rfl dX11_clear_1 ?_
  have h := lt_some h
  refine k_istore_n (lv' := [(1, _), (0, _)]) K dX11_clear_4 (by rw [hn]; decide) rfl ?_
  refine k_aload_n K dX11_clear_5 1 rfl ?_
  refine k_iconst (x := 0) K dX11_clear_6 (by decide) ?_
  have h := lt_some h
  refine k_putI K 0 11 1 tyX11 tyX11_ok nmX11 iX11_clear_X11 (Nat.le_of_ble_eq_true rfl) ((mS_0 cI cZ cC cG cB ad) _) rfl (by decide) fX11_clear_94 rfl (by decide +kernel) (Nat.le_of_ble_eq_true rfl) (pS_0_1 cI cZ cC cG cB ad _ _) dX11_clear_7 ?_
  refine k_iload_n K dX11_clear_10 0 rfl ?_
  exact ret_i hR h dX11_clear_11 trivial
-- X11_shutWays (0, 0)
theorem iX11_shutWays_X11 : ∀ w ∈ wsX110, w ∈ wsX11_shutWays := fun _ h => List.mem_cons_of_mem _ (List.mem_append_left _ (List.mem_append_left _ (List.mem_append_right _ h)))
theorem iX11_shutWays_X2 : ∀ w ∈ wsX20, w ∈ wsX11_shutWays := fun _ h => List.mem_cons_of_mem _ (List.mem_append_left _ (List.mem_append_right _ h))
theorem iX11_shutWays_X3 : ∀ w ∈ wsX30, w ∈ wsX11_shutWays := fun _ h => List.mem_cons_of_mem _ (List.mem_append_right _ h)
theorem fX11_shutWays_16 : Cond.fieldLink RX11 16 "SlopeCoins" "city" "LSlopeCoins$City;" ∈ wsX11_shutWays := by decide +kernel
theorem fX11_shutWays_33 : Cond.fieldLink RX11 33 "SlopeCoins" "ground" "LSlopeCoins$Ground;" ∈ wsX11_shutWays := by decide +kernel
theorem fX11_shutWays_181 : Cond.fieldLink RX11 181 "SlopeCoins$Ground" "plank" "[I" ∈ wsX11_shutWays := by decide +kernel
theorem fX11_shutWays_304 : Cond.fieldLink RX11 304 "SlopeCoins$City" "kerbs" "[I" ∈ wsX11_shutWays := by decide +kernel
set_option maxRecDepth 100000 in
set_option maxHeartbeats 4000000 in
theorem ctX11_shutWays {l : Launch} {D : va_G} {cI cZ cC cG cB : ClassId} {ad : Nat → Nat} {v1 : Int32} {σ : St} {res : (Int32 × St)} (h : mX11_shutWays v1 σ = some res) : Ci l yX11_shutWays wsX11_shutWays 0 0 D vwCl (tysS cI cZ cC cG cB) nwS (mkS cI cZ cC cG cB ad) ad 75 [.ref (ad 0), .int v1] σ res := by
  refine c_int (cc := cX11_shutWays) (maxL := 2) (by decide) rfl (Nat.le_of_ble_eq_true rfl) fun a b hn K hR => ?_
  unfold mX11_shutWays at h
  have K : KS (GS l 0 0 D cI cZ cC cG cB ad a b (w_A ad 75)) cX11_shutWays RX11 wsX11_shutWays (some .int) := K
  have hn : x_n (GS l 0 0 D cI cZ cC cG cB ad a b (w_A ad 75)) = 2 := hn
  refine k_sub [0, 1] rfl ?_
  refine k_aload_n K dX11_shutWays_0 0 rfl ?_
  refine k_get K 0 11 2 iX11_shutWays_X11 (Nat.le_of_ble_eq_true rfl) ((mS_0 cI cZ cC cG cB ad) _) rfl (by decide) fX11_shutWays_16 rfl dX11_shutWays_1 ?_
  refine k_get K 10 2 6 iX11_shutWays_X2 (Nat.le_of_ble_eq_true rfl) ((mS_10 cI cZ cC cG cB ad) _) rfl (by decide) fX11_shutWays_304 rfl dX11_shutWays_4 ?_
  refine k_iload_n K dX11_shutWays_7 1 rfl ?_
  obtain ⟨g1, h⟩ := gd_some h
  refine k_ild K 12 0 (Nat.le_of_ble_eq_true rfl) ((mS_12 cI cZ cC cG cB ad) _) rfl g1 dX11_shutWays_8 ?_
  refine k_aload_n K dX11_shutWays_9 0 rfl ?_
  refine k_get K 0 11 5 iX11_shutWays_X11 (Nat.le_of_ble_eq_true rfl) ((mS_0 cI cZ cC cG cB ad) _) rfl (by decide) fX11_shutWays_33 rfl dX11_shutWays_10 ?_
  refine k_get K 26 3 3 iX11_shutWays_X3 (Nat.le_of_ble_eq_true rfl) ((mS_26 cI cZ cC cG cB ad) _) rfl (by decide) fX11_shutWays_181 rfl dX11_shutWays_13 ?_
  refine k_iload_n K dX11_shutWays_16 1 rfl ?_
  obtain ⟨g2, h⟩ := gd_some h
  refine k_ild K 28 0 (Nat.le_of_ble_eq_true rfl) ((mS_28 cI cZ cC cG cB ad) _) rfl g2 dX11_shutWays_17 ?_
  refine k_ior K dX11_shutWays_18 ?_
  exact ret_i hR h dX11_shutWays_19 trivial
-- X11_cell (1, 22)
theorem iX11_cell_X11 : ∀ w ∈ wsX110, w ∈ wsX11_cell := fun _ h => List.mem_cons_of_mem _ (List.mem_append_left _ (List.mem_append_left _ (List.mem_append_right _ h)))
theorem iX11_cell_X2 : ∀ w ∈ wsX20, w ∈ wsX11_cell := fun _ h => List.mem_cons_of_mem _ (List.mem_append_right _ h)
theorem iX11_cell_X3 : ∀ w ∈ wsX30, w ∈ wsX11_cell := fun _ h => List.mem_cons_of_mem _ (List.mem_append_left _ (List.mem_append_right _ h))
theorem fX11_cell_16 : Cond.fieldLink RX11 16 "SlopeCoins" "city" "LSlopeCoins$City;" ∈ wsX11_cell := by decide +kernel
theorem fX11_cell_33 : Cond.fieldLink RX11 33 "SlopeCoins" "ground" "LSlopeCoins$Ground;" ∈ wsX11_cell := by decide +kernel
theorem fX11_cell_113 : Cond.fieldLink RX11 113 "SlopeCoins$Ground" "height" "[I" ∈ wsX11_cell := by decide +kernel
theorem fX11_cell_116 : Cond.fieldLink RX11 116 "SlopeCoins$City" "grating" "[I" ∈ wsX11_cell := by decide +kernel
theorem fX11_cell_119 : Cond.fieldLink RX11 119 "SlopeCoins$Ground" "lie" "[I" ∈ wsX11_cell := by decide +kernel
theorem fX11_cell_122 : Cond.fieldLink RX11 122 "SlopeCoins$Ground" "lieWorth" "[I" ∈ wsX11_cell := by decide +kernel
theorem fX11_cell_125 : Cond.fieldLink RX11 125 "SlopeCoins$Ground" "in" "[I" ∈ wsX11_cell := by decide +kernel
theorem fX11_cell_128 : Cond.fieldLink RX11 128 "SlopeCoins$Ground" "inWorth" "[I" ∈ wsX11_cell := by decide +kernel
set_option maxRecDepth 100000 in
set_option maxHeartbeats 4000000 in
theorem ctX11_cell {l : Launch} {D : va_G} {cI cZ cC cG cB : ClassId} {ad : Nat → Nat} {v1 : Int32} {v2 : Int32} {v3 : Int32} {σ : St} {res : (Int32 × St)} (h : mX11_cell v1 v2 v3 σ = some res) : Ci l yX11_cell wsX11_cell 1 22 D vwCl (tysS cI cZ cC cG cB) nwS (mkS cI cZ cC cG cB ad) ad 75 [.ref (ad 0), .int v1, .int v2, .int v3] σ res := by
  refine c_int (cc := cX11_cell) (maxL := 5) (by decide) rfl (Nat.le_of_ble_eq_true rfl) fun a b hn K hR => ?_
  unfold mX11_cell at h
  have K : KS (GS l 1 22 D cI cZ cC cG cB ad a b (w_A ad 75)) cX11_cell RX11 wsX11_cell (some .int) := K
  have hn : x_n (GS l 1 22 D cI cZ cC cG cB ad a b (w_A ad 75)) = 5 := hn
  refine k_sub [0, 1, 2, 3] rfl ?_
  refine k_aload_n K dX11_cell_0 0 rfl ?_
  refine k_get K 0 11 2 iX11_cell_X11 (Nat.le_of_ble_eq_true rfl) ((mS_0 cI cZ cC cG cB ad) _) rfl (by decide) fX11_cell_16 rfl dX11_cell_1 ?_
  refine k_iload_n K dX11_cell_4 1 rfl ?_
  refine k_iload_n K dX11_cell_5 2 rfl ?_
  obtain ⟨⟨r1, s2⟩, e3, h⟩ := bd_some h
  dsimp only at h
  refine k_callVi K 10 2 (Nat.le_of_ble_eq_true rfl) ((mS_10 cI cZ cC cG cB ad) _) rfl (ctX2_cellAt (by decide) e3) (cwV 2 K.ts gX11_cell_X2_cellAt rfl rfl rfl hVX2_cellAt ⟨Nat.le_of_ble_eq_true rfl, Nat.le_of_ble_eq_true rfl⟩) rfl rfl (Nat.le_of_ble_eq_true rfl) dX11_cell_6 ?_
  refine k_istore (lv' := [(4, _), (0, _), (1, _), (2, _), (3, _)]) K dX11_cell_9 (by rw [hn]; decide) rfl ?_
  refine k_iload K dX11_cell_11 0 rfl ?_
  refine k_iconst (x := (-1)) K dX11_cell_13 (by decide) ?_
  refine k_icmp_ne (tgt := 19) K dX11_cell_14 (by decide) (fun q => ?_) (fun q => ?_)
  · have h := if_f q h
    refine k_iload_n K dX11_cell_19 4 rfl ?_
    refine k_case (y := 0) (fun q0 => ?_) (fun q0 => ?_)
    · have h := if_t q0 h
      refine k_tableIn (off := 44) (tgt := 64) K dX11_cell_20 (by rw [q0]; decide) (by rw [q0]; decide) (by rw [q0]; rfl) (by decide) ?_
      refine k_aload_n K dX11_cell_64 1 rfl ?_
      refine k_get K 0 11 5 iX11_cell_X11 (Nat.le_of_ble_eq_true rfl) ((mS_0 cI cZ cC cG cB ad) _) rfl (by decide) fX11_cell_33 rfl dX11_cell_65 ?_
      refine k_get K 26 3 2 iX11_cell_X3 (Nat.le_of_ble_eq_true rfl) ((mS_26 cI cZ cC cG cB ad) _) rfl (by decide) fX11_cell_113 rfl dX11_cell_68 ?_
      refine k_iload K dX11_cell_71 0 rfl ?_
      obtain ⟨g4, h⟩ := gd_some h
      refine k_ild K 27 0 (Nat.le_of_ble_eq_true rfl) ((mS_27 cI cZ cC cG cB ad) _) rfl g4 dX11_cell_73 ?_
      exact ret_i hR h dX11_cell_74 trivial
    · have h := if_f q0 h
      refine k_case (y := 1) (fun q1 => ?_) (fun q1 => ?_)
      · have h := if_t q1 h
        refine k_tableIn (off := 55) (tgt := 75) K dX11_cell_20 (by rw [q1]; decide) (by rw [q1]; decide) (by rw [q1]; rfl) (by decide) ?_
        refine k_aload_n K dX11_cell_75 1 rfl ?_
        refine k_get K 0 11 2 iX11_cell_X11 (Nat.le_of_ble_eq_true rfl) ((mS_0 cI cZ cC cG cB ad) _) rfl (by decide) fX11_cell_16 rfl dX11_cell_76 ?_
        refine k_get K 10 2 7 iX11_cell_X2 (Nat.le_of_ble_eq_true rfl) ((mS_10 cI cZ cC cG cB ad) _) rfl (by decide) fX11_cell_116 rfl dX11_cell_79 ?_
        refine k_iload K dX11_cell_82 0 rfl ?_
        obtain ⟨g5, h⟩ := gd_some h
        refine k_ild K 13 0 (Nat.le_of_ble_eq_true rfl) ((mS_13 cI cZ cC cG cB ad) _) rfl g5 dX11_cell_84 ?_
        exact ret_i hR h dX11_cell_85 trivial
      · have h := if_f q1 h
        refine k_case (y := 2) (fun q2 => ?_) (fun q2 => ?_)
        · have h := if_t q2 h
          refine k_tableIn (off := 66) (tgt := 86) K dX11_cell_20 (by rw [q2]; decide) (by rw [q2]; decide) (by rw [q2]; rfl) (by decide) ?_
          refine k_aload_n K dX11_cell_86 1 rfl ?_
          refine k_get K 0 11 5 iX11_cell_X11 (Nat.le_of_ble_eq_true rfl) ((mS_0 cI cZ cC cG cB ad) _) rfl (by decide) fX11_cell_33 rfl dX11_cell_87 ?_
          refine k_get K 26 3 4 iX11_cell_X3 (Nat.le_of_ble_eq_true rfl) ((mS_26 cI cZ cC cG cB ad) _) rfl (by decide) fX11_cell_119 rfl dX11_cell_90 ?_
          refine k_iload K dX11_cell_93 0 rfl ?_
          obtain ⟨g6, h⟩ := gd_some h
          refine k_ild K 29 0 (Nat.le_of_ble_eq_true rfl) ((mS_29 cI cZ cC cG cB ad) _) rfl g6 dX11_cell_95 ?_
          exact ret_i hR h dX11_cell_96 trivial
        · have h := if_f q2 h
          refine k_case (y := 3) (fun q3 => ?_) (fun q3 => ?_)
          · have h := if_t q3 h
            refine k_tableIn (off := 77) (tgt := 97) K dX11_cell_20 (by rw [q3]; decide) (by rw [q3]; decide) (by rw [q3]; rfl) (by decide) ?_
            refine k_aload_n K dX11_cell_97 1 rfl ?_
            refine k_get K 0 11 5 iX11_cell_X11 (Nat.le_of_ble_eq_true rfl) ((mS_0 cI cZ cC cG cB ad) _) rfl (by decide) fX11_cell_33 rfl dX11_cell_98 ?_
            refine k_get K 26 3 5 iX11_cell_X3 (Nat.le_of_ble_eq_true rfl) ((mS_26 cI cZ cC cG cB ad) _) rfl (by decide) fX11_cell_122 rfl dX11_cell_101 ?_
            refine k_iload K dX11_cell_104 0 rfl ?_
            obtain ⟨g7, h⟩ := gd_some h
            refine k_ild K 30 0 (Nat.le_of_ble_eq_true rfl) ((mS_30 cI cZ cC cG cB ad) _) rfl g7 dX11_cell_106 ?_
            exact ret_i hR h dX11_cell_107 trivial
          · have h := if_f q3 h
            refine k_case (y := 4) (fun q4 => ?_) (fun q4 => ?_)
            · have h := if_t q4 h
              refine k_tableIn (off := 88) (tgt := 108) K dX11_cell_20 (by rw [q4]; decide) (by rw [q4]; decide) (by rw [q4]; rfl) (by decide) ?_
              refine k_aload_n K dX11_cell_108 1 rfl ?_
              refine k_get K 0 11 5 iX11_cell_X11 (Nat.le_of_ble_eq_true rfl) ((mS_0 cI cZ cC cG cB ad) _) rfl (by decide) fX11_cell_33 rfl dX11_cell_109 ?_
              refine k_get K 26 3 6 iX11_cell_X3 (Nat.le_of_ble_eq_true rfl) ((mS_26 cI cZ cC cG cB ad) _) rfl (by decide) fX11_cell_125 rfl dX11_cell_112 ?_
              refine k_iload K dX11_cell_115 0 rfl ?_
              obtain ⟨g8, h⟩ := gd_some h
              refine k_ild K 31 0 (Nat.le_of_ble_eq_true rfl) ((mS_31 cI cZ cC cG cB ad) _) rfl g8 dX11_cell_117 ?_
              exact ret_i hR h dX11_cell_118 trivial
            · have h := if_f q4 h
              refine k_case (y := 5) (fun q5 => ?_) (fun q5 => ?_)
              · have h := if_t q5 h
                refine k_tableIn (off := 99) (tgt := 119) K dX11_cell_20 (by rw [q5]; decide) (by rw [q5]; decide) (by rw [q5]; rfl) (by decide) ?_
                refine k_aload_n K dX11_cell_119 1 rfl ?_
                refine k_get K 0 11 5 iX11_cell_X11 (Nat.le_of_ble_eq_true rfl) ((mS_0 cI cZ cC cG cB ad) _) rfl (by decide) fX11_cell_33 rfl dX11_cell_120 ?_
                refine k_get K 26 3 7 iX11_cell_X3 (Nat.le_of_ble_eq_true rfl) ((mS_26 cI cZ cC cG cB ad) _) rfl (by decide) fX11_cell_128 rfl dX11_cell_123 ?_
                refine k_iload K dX11_cell_126 0 rfl ?_
                obtain ⟨g9, h⟩ := gd_some h
                refine k_ild K 32 0 (Nat.le_of_ble_eq_true rfl) ((mS_32 cI cZ cC cG cB ad) _) rfl g9 dX11_cell_128 ?_
                exact ret_i hR h dX11_cell_129 trivial
              · have h := if_f q5 h
                refine k_case (y := 6) (fun q6 => ?_) (fun q6 => ?_)
                · have h := if_t q6 h
                  refine k_tableIn (off := 110) (tgt := 130) K dX11_cell_20 (by rw [q6]; decide) (by rw [q6]; decide) (by rw [q6]; rfl) (by decide) ?_
                  refine k_aload_n K dX11_cell_130 1 rfl ?_
                  refine k_iload K dX11_cell_131 0 rfl ?_
                  obtain ⟨⟨r10, s11⟩, e12, h⟩ := bd_some h
                  dsimp only at h
                  refine k_callVi K 0 11 (Nat.le_of_ble_eq_true rfl) ((mS_0 cI cZ cC cG cB ad) _) rfl (ctX11_shutWays e12) (cwV 1 K.ts gX11_cell_X11_shutWays rfl rfl rfl hVX11_shutWays ⟨Nat.le_of_ble_eq_true rfl, Nat.le_of_ble_eq_true rfl⟩) rfl rfl (Nat.le_of_ble_eq_true rfl) dX11_cell_133 ?_
                  exact ret_i hR h dX11_cell_136 trivial
                · have h := if_f q6 h
                  refine k_tableOut (tgt := 137) K dX11_cell_20 (sw_out7 q0 q1 q2 q3 q4 q5 q6) (by decide) ?_
                  refine k_iconst (x := (-1)) K dX11_cell_137 (by decide) ?_
                  exact ret_i hR h dX11_cell_138 trivial
  · have h := if_t q h
    refine k_iconst (x := (-1)) K dX11_cell_17 (by decide) ?_
    exact ret_i hR h dX11_cell_18 trivial
-- X11_isKind (0, 0)
theorem iX11_isKind_X11 : ∀ w ∈ wsX110, w ∈ wsX11_isKind := fun _ h => List.mem_cons_of_mem _ (List.mem_append_left _ (List.mem_append_right _ h))
theorem iX11_isKind_X2 : ∀ w ∈ wsX20, w ∈ wsX11_isKind := fun _ h => List.mem_cons_of_mem _ (List.mem_append_right _ h)
theorem fX11_isKind_16 : Cond.fieldLink RX11 16 "SlopeCoins" "city" "LSlopeCoins$City;" ∈ wsX11_isKind := by decide +kernel
theorem fX11_isKind_265 : Cond.fieldLink RX11 265 "SlopeCoins$City" "kinds" "I" ∈ wsX11_isKind := by decide +kernel
set_option maxRecDepth 100000 in
set_option maxHeartbeats 4000000 in
theorem ctX11_isKind {l : Launch} {D : va_G} {cI cZ cC cG cB : ClassId} {ad : Nat → Nat} {v1 : Int32} {σ : St} {res : (Int32 × St)} (h : mX11_isKind v1 σ = some res) : Ci l yX11_isKind wsX11_isKind 0 0 D vwCl (tysS cI cZ cC cG cB) nwS (mkS cI cZ cC cG cB ad) ad 75 [.ref (ad 0), .int v1] σ res := by
  refine c_bool (cc := cX11_isKind) (maxL := 2) (by decide) rfl (Nat.le_of_ble_eq_true rfl) fun a b hn K hR => ?_
  unfold mX11_isKind at h
  have K : KS (GS l 0 0 D cI cZ cC cG cB ad a b (w_A ad 75)) cX11_isKind RX11 wsX11_isKind (some .boolean) := K
  have hn : x_n (GS l 0 0 D cI cZ cC cG cB ad a b (w_A ad 75)) = 2 := hn
  refine k_sub [0, 1] rfl ?_
  refine k_iload_n K dX11_isKind_0 1 rfl ?_
  refine k_if_lt (tgt := 19) K dX11_isKind_1 (by decide) (fun q => ?_) (fun q => ?_)
  · have h := if_t q h
    refine k_iconst (x := 0) K dX11_isKind_19 (by decide) ?_
    exact ret_i hR h dX11_isKind_20 zb_0
  · have h := if_f q h
    refine k_iload_n K dX11_isKind_4 1 rfl ?_
    refine k_aload_n K dX11_isKind_5 0 rfl ?_
    refine k_get K 0 11 2 iX11_isKind_X11 (Nat.le_of_ble_eq_true rfl) ((mS_0 cI cZ cC cG cB ad) _) rfl (by decide) fX11_isKind_16 rfl dX11_isKind_6 ?_
    refine k_get K 10 2 4 iX11_isKind_X2 (Nat.le_of_ble_eq_true rfl) ((mS_10 cI cZ cC cG cB ad) _) rfl (by decide) fX11_isKind_265 rfl dX11_isKind_9 ?_
    refine k_icmp_ge (tgt := 19) K dX11_isKind_12 (by decide) (fun q => ?_) (fun q => ?_)
    · have h := if_f q h
      refine k_iconst (x := 0) K dX11_isKind_19 (by decide) ?_
      exact ret_i hR h dX11_isKind_20 zb_0
    · have h := if_t q h
      refine k_iconst (x := 1) K dX11_isKind_15 (by decide) ?_
      refine k_goto (tgt := 20) K dX11_isKind_16 (by decide) ?_
      exact ret_i hR h dX11_isKind_20 zb_1
-- X11_kind (1, 21)
theorem iX11_kind_X11 : ∀ w ∈ wsX110, w ∈ wsX11_kind := fun _ h => List.mem_cons_of_mem _ (List.mem_append_left _ (List.mem_append_right _ h))
theorem iX11_kind_X2 : ∀ w ∈ wsX20, w ∈ wsX11_kind := fun _ h => List.mem_cons_of_mem _ (List.mem_append_right _ h)
theorem fX11_kind_16 : Cond.fieldLink RX11 16 "SlopeCoins" "city" "LSlopeCoins$City;" ∈ wsX11_kind := by decide +kernel
theorem fX11_kind_139 : Cond.fieldLink RX11 139 "SlopeCoins$City" "size" "[I" ∈ wsX11_kind := by decide +kernel
theorem fX11_kind_142 : Cond.fieldLink RX11 142 "SlopeCoins$City" "worth" "[I" ∈ wsX11_kind := by decide +kernel
theorem fX11_kind_145 : Cond.fieldLink RX11 145 "SlopeCoins$City" "forged" "[I" ∈ wsX11_kind := by decide +kernel
set_option maxRecDepth 100000 in
set_option maxHeartbeats 4000000 in
theorem ctX11_kind {l : Launch} {D : va_G} {cI cZ cC cG cB : ClassId} {ad : Nat → Nat} {v1 : Int32} {v2 : Int32} {σ : St} {res : (Int32 × St)} (h : mX11_kind v1 v2 σ = some res) : Ci l yX11_kind wsX11_kind 1 21 D vwCl (tysS cI cZ cC cG cB) nwS (mkS cI cZ cC cG cB ad) ad 75 [.ref (ad 0), .int v1, .int v2] σ res := by
  refine c_int (cc := cX11_kind) (maxL := 3) (by decide) rfl (Nat.le_of_ble_eq_true rfl) fun a b hn K hR => ?_
  unfold mX11_kind at h
  have K : KS (GS l 1 21 D cI cZ cC cG cB ad a b (w_A ad 75)) cX11_kind RX11 wsX11_kind (some .int) := K
  have hn : x_n (GS l 1 21 D cI cZ cC cG cB ad a b (w_A ad 75)) = 3 := hn
  refine k_sub [0, 1, 2] rfl ?_
  refine k_aload_n K dX11_kind_0 0 rfl ?_
  refine k_iload_n K dX11_kind_1 1 rfl ?_
  obtain ⟨⟨r1, s2⟩, e3, h⟩ := bd_some h
  dsimp only at h
  refine k_callVi K 0 11 (Nat.le_of_ble_eq_true rfl) ((mS_0 cI cZ cC cG cB ad) _) rfl (ctX11_isKind e3) (cwV 1 K.ts gX11_kind_X11_isKind rfl rfl rfl hVX11_isKind ⟨Nat.le_of_ble_eq_true rfl, Nat.le_of_ble_eq_true rfl⟩) rfl rfl (Nat.le_of_ble_eq_true rfl) dX11_kind_2 ?_
  refine k_if_ne (tgt := 10) K dX11_kind_5 (by decide) (fun q => ?_) (fun q => ?_)
  · have h := if_f q h
    refine k_iload_n K dX11_kind_10 2 rfl ?_
    refine k_case (y := 0) (fun q0 => ?_) (fun q0 => ?_)
    · have h := if_t q0 h
      refine k_tableIn (off := 25) (tgt := 36) K dX11_kind_11 (by rw [q0]; decide) (by rw [q0]; decide) (by rw [q0]; rfl) (by decide) ?_
      refine k_aload_n K dX11_kind_36 0 rfl ?_
      refine k_get K 0 11 2 iX11_kind_X11 (Nat.le_of_ble_eq_true rfl) ((mS_0 cI cZ cC cG cB ad) _) rfl (by decide) fX11_kind_16 rfl dX11_kind_37 ?_
      refine k_get K 10 2 9 iX11_kind_X2 (Nat.le_of_ble_eq_true rfl) ((mS_10 cI cZ cC cG cB ad) _) rfl (by decide) fX11_kind_139 rfl dX11_kind_40 ?_
      refine k_iload_n K dX11_kind_43 1 rfl ?_
      obtain ⟨g4, h⟩ := gd_some h
      refine k_ild K 15 0 (Nat.le_of_ble_eq_true rfl) ((mS_15 cI cZ cC cG cB ad) _) rfl g4 dX11_kind_44 ?_
      exact ret_i hR h dX11_kind_45 trivial
    · have h := if_f q0 h
      refine k_case (y := 1) (fun q1 => ?_) (fun q1 => ?_)
      · have h := if_t q1 h
        refine k_tableIn (off := 35) (tgt := 46) K dX11_kind_11 (by rw [q1]; decide) (by rw [q1]; decide) (by rw [q1]; rfl) (by decide) ?_
        refine k_aload_n K dX11_kind_46 0 rfl ?_
        refine k_get K 0 11 2 iX11_kind_X11 (Nat.le_of_ble_eq_true rfl) ((mS_0 cI cZ cC cG cB ad) _) rfl (by decide) fX11_kind_16 rfl dX11_kind_47 ?_
        refine k_get K 10 2 10 iX11_kind_X2 (Nat.le_of_ble_eq_true rfl) ((mS_10 cI cZ cC cG cB ad) _) rfl (by decide) fX11_kind_142 rfl dX11_kind_50 ?_
        refine k_iload_n K dX11_kind_53 1 rfl ?_
        obtain ⟨g5, h⟩ := gd_some h
        refine k_ild K 16 0 (Nat.le_of_ble_eq_true rfl) ((mS_16 cI cZ cC cG cB ad) _) rfl g5 dX11_kind_54 ?_
        exact ret_i hR h dX11_kind_55 trivial
      · have h := if_f q1 h
        refine k_case (y := 2) (fun q2 => ?_) (fun q2 => ?_)
        · have h := if_t q2 h
          refine k_tableIn (off := 45) (tgt := 56) K dX11_kind_11 (by rw [q2]; decide) (by rw [q2]; decide) (by rw [q2]; rfl) (by decide) ?_
          refine k_aload_n K dX11_kind_56 0 rfl ?_
          refine k_get K 0 11 2 iX11_kind_X11 (Nat.le_of_ble_eq_true rfl) ((mS_0 cI cZ cC cG cB ad) _) rfl (by decide) fX11_kind_16 rfl dX11_kind_57 ?_
          refine k_get K 10 2 11 iX11_kind_X2 (Nat.le_of_ble_eq_true rfl) ((mS_10 cI cZ cC cG cB ad) _) rfl (by decide) fX11_kind_145 rfl dX11_kind_60 ?_
          refine k_iload_n K dX11_kind_63 1 rfl ?_
          obtain ⟨g6, h⟩ := gd_some h
          refine k_ild K 17 0 (Nat.le_of_ble_eq_true rfl) ((mS_17 cI cZ cC cG cB ad) _) rfl g6 dX11_kind_64 ?_
          exact ret_i hR h dX11_kind_65 trivial
        · have h := if_f q2 h
          refine k_tableOut (tgt := 66) K dX11_kind_11 (sw_out3 q0 q1 q2) (by decide) ?_
          refine k_iconst (x := (-1)) K dX11_kind_66 (by decide) ?_
          exact ret_i hR h dX11_kind_67 trivial
  · have h := if_t q h
    refine k_iconst (x := (-1)) K dX11_kind_8 (by decide) ?_
    exact ret_i hR h dX11_kind_9 trivial
-- X11_sumOf (0, 0)
theorem iX11_sumOf_X11 : ∀ w ∈ wsX110, w ∈ wsX11_sumOf := fun _ h => List.mem_cons_of_mem _ (List.mem_append_left _ (List.mem_append_right _ h))
theorem iX11_sumOf_X2 : ∀ w ∈ wsX20, w ∈ wsX11_sumOf := fun _ h => List.mem_cons_of_mem _ (List.mem_append_right _ h)
theorem fX11_sumOf_16 : Cond.fieldLink RX11 16 "SlopeCoins" "city" "LSlopeCoins$City;" ∈ wsX11_sumOf := by decide +kernel
theorem fX11_sumOf_232 : Cond.fieldLink RX11 232 "SlopeCoins$City" "cells" "I" ∈ wsX11_sumOf := by decide +kernel
set_option maxRecDepth 100000 in
set_option maxHeartbeats 4000000 in
theorem wX11_sumOf_4 {l : Launch} {D : va_G} {cI cZ cC cG cB : ClassId} {ad : Nat → Nat} {a : Program × Env × State × MethodId} {b : Array Value × List Frame × Method × Code × (State → Prop) × Nat} {A : Nat → Prop} {i : Nat} {ni : Nat} (K : KS (GS l 0 0 D cI cZ cC cG cB ad a b A) cX11_sumOf RX11 wsX11_sumOf (some .int)) (hn : x_n (GS l 0 0 D cI cZ cC cG cB ad a b A) = 4) {res : (Int32 × St)} (hR : HRi (GS l 0 0 D cI cZ cC cG cB ad a b A) cX11_sumOf tb res) (hil : i < 75) (him : ∀ f, mkS cI cZ cC cG cB ad i f = .inl (cI, ni, .inl f)) : ∀ (n : Nat) (v2 : Int32) (v3 : Int32) (σ : St), mX11_sumOf_4 i ni n v2 v3 σ = some res → Wk (GS l 0 0 D cI cZ cC cG cB ad a b A) 4 [(0, .ref (ad 0)), (1, .ref (ad i)), (2, .int v2), (3, .int v3)] [] σ := by
  intro n
  induction n with
  | zero => intro v2 v3 σ h; cases h
  | succ n ih =>
    intro v2 v3 σ h
    unfold mX11_sumOf_4 at h
    refine k_iload_n K dX11_sumOf_4 3 rfl ?_
    refine k_aload_n K dX11_sumOf_5 0 rfl ?_
    refine k_get K 0 11 2 iX11_sumOf_X11 (Nat.le_of_ble_eq_true rfl) ((mS_0 cI cZ cC cG cB ad) _) rfl (by decide) fX11_sumOf_16 rfl dX11_sumOf_6 ?_
    refine k_get K 10 2 2 iX11_sumOf_X2 (Nat.le_of_ble_eq_true rfl) ((mS_10 cI cZ cC cG cB ad) _) rfl (by decide) fX11_sumOf_232 rfl dX11_sumOf_9 ?_
    refine k_icmp_ge (tgt := 33) K dX11_sumOf_12 (by decide) (fun q => ?_) (fun q => ?_)
    · have h := if_f q h
      refine k_iload_n K dX11_sumOf_33 2 rfl ?_
      exact ret_i hR h dX11_sumOf_34 trivial
    · have h := if_t q h
      refine k_iload_n K dX11_sumOf_15 3 rfl ?_
      refine k_aload_n K dX11_sumOf_16 1 rfl ?_
      refine k_len (x := (Int32.ofNat ni)) K i 0 hil (him _) rfl rfl dX11_sumOf_17 ?_
      refine k_icmp_ge (tgt := 33) K dX11_sumOf_18 (by decide) (fun q => ?_) (fun q => ?_)
      · have h := if_f q h
        refine k_iload_n K dX11_sumOf_33 2 rfl ?_
        exact ret_i hR h dX11_sumOf_34 trivial
      · have h := if_t q h
        refine k_iload_n K dX11_sumOf_21 2 rfl ?_
        refine k_aload_n K dX11_sumOf_22 1 rfl ?_
        refine k_iload_n K dX11_sumOf_23 3 rfl ?_
        obtain ⟨g1, h⟩ := gd_some h
        refine k_ild K i 0 hil (him _) rfl g1 dX11_sumOf_24 ?_
        refine k_iadd K dX11_sumOf_25 ?_
        have h := lt_some h
        refine k_istore_n (lv' := [(2, _), (0, _), (1, _), (3, _)]) K dX11_sumOf_26 (by rw [hn]; decide) rfl ?_
        have h := lt_some h
        refine k_iinc (lv' := [(3, _), (2, _), (0, _), (1, _)]) K dX11_sumOf_27 3 rfl (v := _ + 1) (by rfl) (by rw [hn]; decide) rfl ?_
        refine k_goto (tgt := 4) K dX11_sumOf_30 (by decide) ?_
        exact k_sub [2, 3, 1, 0] rfl (ih _ _ _ h)
set_option maxRecDepth 100000 in
set_option maxHeartbeats 4000000 in
theorem ctX11_sumOf {l : Launch} {D : va_G} {cI cZ cC cG cB : ClassId} {ad : Nat → Nat} {i : Nat} {ni : Nat} {σ : St} {res : (Int32 × St)} (hil : i < 75) (him : ∀ f, mkS cI cZ cC cG cB ad i f = .inl (cI, ni, .inl f)) (h : mX11_sumOf i ni σ = some res) : Ci l yX11_sumOf wsX11_sumOf 0 0 D vwCl (tysS cI cZ cC cG cB) nwS (mkS cI cZ cC cG cB ad) ad 75 [.ref (ad 0), .ref (ad i)] σ res := by
  refine c_int (cc := cX11_sumOf) (maxL := 4) (by decide) rfl (Nat.le_of_ble_eq_true rfl) fun a b hn K hR => ?_
  unfold mX11_sumOf at h
  have K : KS (GS l 0 0 D cI cZ cC cG cB ad a b (w_A ad 75)) cX11_sumOf RX11 wsX11_sumOf (some .int) := K
  have hn : x_n (GS l 0 0 D cI cZ cC cG cB ad a b (w_A ad 75)) = 4 := hn
  refine k_sub [0, 1] rfl ?_
  refine k_iconst (x := 0) K dX11_sumOf_0 (by decide) ?_
  refine k_istore_n (lv' := [(2, _), (0, _), (1, _)]) K dX11_sumOf_1 (by rw [hn]; decide) rfl ?_
  refine k_iconst (x := 0) K dX11_sumOf_2 (by decide) ?_
  refine k_istore_n (lv' := [(3, _), (2, _), (0, _), (1, _)]) K dX11_sumOf_3 (by rw [hn]; decide) rfl ?_
  exact k_sub [2, 3, 1, 0] rfl (wX11_sumOf_4 K hn hR hil him FU _ _ _ h)
-- X11_endCode (1, 21)
theorem iX11_endCode_X11 : ∀ w ∈ wsX110, w ∈ wsX11_endCode := fun _ h => List.mem_cons_of_mem _ (List.mem_append_left _ (List.mem_append_left _ (List.mem_append_right _ h)))
theorem iX11_endCode_X8 : ∀ w ∈ wsX80, w ∈ wsX11_endCode := fun _ h => List.mem_cons_of_mem _ (List.mem_append_left _ (List.mem_append_right _ h))
theorem fX11_endCode_16 : Cond.fieldLink RX11 16 "SlopeCoins" "city" "LSlopeCoins$City;" ∈ wsX11_endCode := by decide +kernel
theorem fX11_endCode_48 : Cond.fieldLink RX11 48 "SlopeCoins" "roll" "LSlopeCoins$Roll;" ∈ wsX11_endCode := by decide +kernel
theorem fX11_endCode_156 : Cond.fieldLink RX11 156 "SlopeCoins$Roll" "at" "I" ∈ wsX11_endCode := by decide +kernel
theorem fX11_endCode_159 : Cond.fieldLink RX11 159 "SlopeCoins$Roll" "fell" "Z" ∈ wsX11_endCode := by decide +kernel
set_option maxRecDepth 100000 in
set_option maxHeartbeats 4000000 in
theorem ctX11_endCode {l : Launch} {D : va_G} {cI cZ cC cG cB : ClassId} {ad : Nat → Nat} {σ : St} {res : (Int32 × St)} (h : mX11_endCode σ = some res) : Ci l yX11_endCode wsX11_endCode 1 21 D vwCl (tysS cI cZ cC cG cB) nwS (mkS cI cZ cC cG cB ad) ad 75 [.ref (ad 0)] σ res := by
  refine c_int (cc := cX11_endCode) (maxL := 1) (by decide) rfl (Nat.le_of_ble_eq_true rfl) fun a b hn K hR => ?_
  unfold mX11_endCode at h
  have K : KS (GS l 1 21 D cI cZ cC cG cB ad a b (w_A ad 75)) cX11_endCode RX11 wsX11_endCode (some .int) := K
  have hn : x_n (GS l 1 21 D cI cZ cC cG cB ad a b (w_A ad 75)) = 1 := hn
  refine k_sub [0] rfl ?_
  refine k_aload_n K dX11_endCode_0 0 rfl ?_
  refine k_get K 0 11 2 iX11_endCode_X11 (Nat.le_of_ble_eq_true rfl) ((mS_0 cI cZ cC cG cB ad) _) rfl (by decide) fX11_endCode_16 rfl dX11_endCode_1 ?_
  refine k_aload_n K dX11_endCode_4 0 rfl ?_
  refine k_get K 0 11 8 iX11_endCode_X11 (Nat.le_of_ble_eq_true rfl) ((mS_0 cI cZ cC cG cB ad) _) rfl (by decide) fX11_endCode_48 rfl dX11_endCode_5 ?_
  refine k_get K 59 8 0 iX11_endCode_X8 (Nat.le_of_ble_eq_true rfl) ((mS_59 cI cZ cC cG cB ad) _) rfl (by decide) fX11_endCode_156 rfl dX11_endCode_8 ?_
  obtain ⟨⟨r1, s2⟩, e3, h⟩ := bd_some h
  dsimp only at h
  refine k_callVi K 10 2 (Nat.le_of_ble_eq_true rfl) ((mS_10 cI cZ cC cG cB ad) _) rfl (ctX2_pairOf (by decide) e3) (cwV 1 K.ts gX11_endCode_X2_pairOf rfl rfl rfl hVX2_pairOf ⟨Nat.le_of_ble_eq_true rfl, Nat.le_of_ble_eq_true rfl⟩) rfl rfl (Nat.le_of_ble_eq_true rfl) dX11_endCode_11 ?_
  refine k_aload_n K dX11_endCode_14 0 rfl ?_
  refine k_get K 0 11 8 iX11_endCode_X11 (Nat.le_of_ble_eq_true rfl) ((mS_0 cI cZ cC cG cB ad) _) rfl (by decide) fX11_endCode_48 rfl dX11_endCode_15 ?_
  refine k_get K 59 8 1 iX11_endCode_X8 (Nat.le_of_ble_eq_true rfl) ((mS_59 cI cZ cC cG cB ad) _) rfl (by decide) fX11_endCode_159 rfl dX11_endCode_18 ?_
  refine k_if_eq (tgt := 29) K dX11_endCode_21 (by decide) (fun q => ?_) (fun q => ?_)
  · have h := if_t q h
    refine k_iconst (x := 0) K dX11_endCode_29 (by decide) ?_
    refine k_iadd K dX11_endCode_30 ?_
    exact ret_i hR h dX11_endCode_31 trivial
  · have h := if_f q h
    refine k_bipush (x := 100) K dX11_endCode_24 (by decide) ?_
    refine k_goto (tgt := 30) K dX11_endCode_26 (by decide) ?_
    refine k_iadd K dX11_endCode_30 ?_
    exact ret_i hR h dX11_endCode_31 trivial
-- X11_lets (4, 107)
theorem iX11_lets_X11 : ∀ w ∈ wsX110, w ∈ wsX11_lets := fun _ h => List.mem_cons_of_mem _ (List.mem_append_left _ (List.mem_append_left _ (List.mem_append_left _ (List.mem_append_right _ h))))
theorem iX11_lets_X2 : ∀ w ∈ wsX20, w ∈ wsX11_lets := fun _ h => List.mem_cons_of_mem _ (List.mem_append_right _ h)
theorem iX11_lets_X3 : ∀ w ∈ wsX30, w ∈ wsX11_lets := fun _ h => List.mem_cons_of_mem _ (List.mem_append_left _ (List.mem_append_left _ (List.mem_append_right _ h)))
theorem iX11_lets_X8 : ∀ w ∈ wsX80, w ∈ wsX11_lets := fun _ h => List.mem_cons_of_mem _ (List.mem_append_left _ (List.mem_append_right _ h))
theorem fX11_lets_16 : Cond.fieldLink RX11 16 "SlopeCoins" "city" "LSlopeCoins$City;" ∈ wsX11_lets := by decide +kernel
theorem fX11_lets_33 : Cond.fieldLink RX11 33 "SlopeCoins" "ground" "LSlopeCoins$Ground;" ∈ wsX11_lets := by decide +kernel
theorem fX11_lets_48 : Cond.fieldLink RX11 48 "SlopeCoins" "roll" "LSlopeCoins$Roll;" ∈ wsX11_lets := by decide +kernel
theorem fX11_lets_119 : Cond.fieldLink RX11 119 "SlopeCoins$Ground" "lie" "[I" ∈ wsX11_lets := by decide +kernel
theorem fX11_lets_125 : Cond.fieldLink RX11 125 "SlopeCoins$Ground" "in" "[I" ∈ wsX11_lets := by decide +kernel
theorem fX11_lets_142 : Cond.fieldLink RX11 142 "SlopeCoins$City" "worth" "[I" ∈ wsX11_lets := by decide +kernel
theorem fX11_lets_156 : Cond.fieldLink RX11 156 "SlopeCoins$Roll" "at" "I" ∈ wsX11_lets := by decide +kernel
theorem fX11_lets_159 : Cond.fieldLink RX11 159 "SlopeCoins$Roll" "fell" "Z" ∈ wsX11_lets := by decide +kernel
set_option maxRecDepth 100000 in
set_option maxHeartbeats 4000000 in
theorem ctX11_lets {l : Launch} {D : va_G} {cI cZ cC cG cB : ClassId} {ad : Nat → Nat} {v1 : Int32} {v2 : Int32} {v3 : Int32} {σ : St} {res : (Int32 × St)} (h : mX11_lets v1 v2 v3 σ = some res) : Ci l yX11_lets wsX11_lets 4 107 D vwCl (tysS cI cZ cC cG cB) nwS (mkS cI cZ cC cG cB ad) ad 75 [.ref (ad 0), .int v1, .int v2, .int v3] σ res := by
  refine c_int (cc := cX11_lets) (maxL := 5) (by decide) rfl (Nat.le_of_ble_eq_true rfl) fun a b hn K hR => ?_
  unfold mX11_lets at h
  have K : KS (GS l 4 107 D cI cZ cC cG cB ad a b (w_A ad 75)) cX11_lets RX11 wsX11_lets (some .int) := K
  have hn : x_n (GS l 4 107 D cI cZ cC cG cB ad a b (w_A ad 75)) = 5 := hn
  refine k_sub [0, 1, 2, 3] rfl ?_
  refine k_aload_n K dX11_lets_0 0 rfl ?_
  refine k_get K 0 11 2 iX11_lets_X11 (Nat.le_of_ble_eq_true rfl) ((mS_0 cI cZ cC cG cB ad) _) rfl (by decide) fX11_lets_16 rfl dX11_lets_1 ?_
  refine k_iload_n K dX11_lets_4 2 rfl ?_
  refine k_iload_n K dX11_lets_5 3 rfl ?_
  obtain ⟨⟨r1, s2⟩, e3, h⟩ := bd_some h
  dsimp only at h
  refine k_callVi K 10 2 (Nat.le_of_ble_eq_true rfl) ((mS_10 cI cZ cC cG cB ad) _) rfl (ctX2_cellAt (by decide) e3) (cwV 2 K.ts gX11_lets_X2_cellAt rfl rfl rfl hVX2_cellAt ⟨Nat.le_of_ble_eq_true rfl, Nat.le_of_ble_eq_true rfl⟩) rfl rfl (Nat.le_of_ble_eq_true rfl) dX11_lets_6 ?_
  refine k_istore (lv' := [(4, _), (0, _), (1, _), (2, _), (3, _)]) K dX11_lets_9 (by rw [hn]; decide) rfl ?_
  refine k_aload_n K dX11_lets_11 1 rfl ?_
  refine k_iload_n K dX11_lets_12 2 rfl ?_
  obtain ⟨⟨r4, s5⟩, e6, h⟩ := bd_some h
  dsimp only at h
  refine k_callVi K 0 11 (Nat.le_of_ble_eq_true rfl) ((mS_0 cI cZ cC cG cB ad) _) rfl (ctX11_isKind e6) (cwV 1 K.ts gX11_lets_X11_isKind rfl rfl rfl hVX11_isKind ⟨Nat.le_of_ble_eq_true rfl, Nat.le_of_ble_eq_true rfl⟩) rfl rfl (Nat.le_of_ble_eq_true rfl) dX11_lets_13 ?_
  refine k_if_eq (tgt := 25) K dX11_lets_16 (by decide) (fun q => ?_) (fun q => ?_)
  · have h := if_t q h
    refine k_iconst (x := (-1)) K dX11_lets_25 (by decide) ?_
    exact ret_i hR h dX11_lets_26 trivial
  · have h := if_f q h
    refine k_iload K dX11_lets_19 0 rfl ?_
    refine k_iconst (x := (-1)) K dX11_lets_21 (by decide) ?_
    refine k_icmp_ne (tgt := 27) K dX11_lets_22 (by decide) (fun q => ?_) (fun q => ?_)
    · have h := if_f q h
      refine k_aload_n K dX11_lets_27 1 rfl ?_
      refine k_aload_n K dX11_lets_28 1 rfl ?_
      refine k_get K 0 11 5 iX11_lets_X11 (Nat.le_of_ble_eq_true rfl) ((mS_0 cI cZ cC cG cB ad) _) rfl (by decide) fX11_lets_33 rfl dX11_lets_29 ?_
      refine k_get K 26 3 4 iX11_lets_X3 (Nat.le_of_ble_eq_true rfl) ((mS_26 cI cZ cC cG cB ad) _) rfl (by decide) fX11_lets_119 rfl dX11_lets_32 ?_
      obtain ⟨⟨r7, s8⟩, e9, h⟩ := bd_some h
      dsimp only at h
      refine k_callVi K 0 11 (Nat.le_of_ble_eq_true rfl) ((mS_0 cI cZ cC cG cB ad) _) rfl (ctX11_sumOf (Nat.le_of_ble_eq_true rfl) (mS_29 cI cZ cC cG cB ad) e9) (cwV 1 K.ts gX11_lets_X11_sumOf rfl rfl rfl hVX11_sumOf ⟨Nat.le_of_ble_eq_true rfl, Nat.le_of_ble_eq_true rfl⟩) rfl rfl (Nat.le_of_ble_eq_true rfl) dX11_lets_35 ?_
      refine k_aload_n K dX11_lets_38 1 rfl ?_
      refine k_aload_n K dX11_lets_39 1 rfl ?_
      refine k_get K 0 11 5 iX11_lets_X11 (Nat.le_of_ble_eq_true rfl) ((mS_0 cI cZ cC cG cB ad) _) rfl (by decide) fX11_lets_33 rfl dX11_lets_40 ?_
      refine k_get K 26 3 6 iX11_lets_X3 (Nat.le_of_ble_eq_true rfl) ((mS_26 cI cZ cC cG cB ad) _) rfl (by decide) fX11_lets_125 rfl dX11_lets_43 ?_
      obtain ⟨⟨r10, s11⟩, e12, h⟩ := bd_some h
      dsimp only at h
      refine k_callVi K 0 11 (Nat.le_of_ble_eq_true rfl) ((mS_0 cI cZ cC cG cB ad) _) rfl (ctX11_sumOf (Nat.le_of_ble_eq_true rfl) (mS_31 cI cZ cC cG cB ad) e12) (cwV 1 K.ts gX11_lets_X11_sumOf rfl rfl rfl hVX11_sumOf ⟨Nat.le_of_ble_eq_true rfl, Nat.le_of_ble_eq_true rfl⟩) rfl rfl (Nat.le_of_ble_eq_true rfl) dX11_lets_46 ?_
      refine k_iadd K dX11_lets_49 ?_
      refine k_sipush (x := 999) K dX11_lets_50 (by decide) ?_
      refine k_icmp_lt (tgt := 59) K dX11_lets_53 (by decide) (fun q => ?_) (fun q => ?_)
      · have h := if_t q h
        refine k_aload_n K dX11_lets_59 1 rfl ?_
        refine k_get K 0 11 8 iX11_lets_X11 (Nat.le_of_ble_eq_true rfl) ((mS_0 cI cZ cC cG cB ad) _) rfl (by decide) fX11_lets_48 rfl dX11_lets_60 ?_
        refine k_aload_n K dX11_lets_63 1 rfl ?_
        refine k_get K 0 11 2 iX11_lets_X11 (Nat.le_of_ble_eq_true rfl) ((mS_0 cI cZ cC cG cB ad) _) rfl (by decide) fX11_lets_16 rfl dX11_lets_64 ?_
        refine k_aload_n K dX11_lets_67 1 rfl ?_
        refine k_get K 0 11 5 iX11_lets_X11 (Nat.le_of_ble_eq_true rfl) ((mS_0 cI cZ cC cG cB ad) _) rfl (by decide) fX11_lets_33 rfl dX11_lets_68 ?_
        refine k_iload_n K dX11_lets_71 2 rfl ?_
        refine k_iload K dX11_lets_72 0 rfl ?_
        obtain ⟨⟨r13, s14⟩, e15, h⟩ := bd_some h
        dsimp only at h
        refine k_callVv K 59 8 (Nat.le_of_ble_eq_true rfl) ((mS_59 cI cZ cC cG cB ad) _) rfl (ctX8_goAs (by decide) e15) (cwV 4 K.ts gX11_lets_X8_goAs rfl rfl rfl hVX8_goAs ⟨Nat.le_of_ble_eq_true rfl, Nat.le_of_ble_eq_true rfl⟩) rfl rfl (Nat.le_of_ble_eq_true rfl) dX11_lets_74 ?_
        refine k_aload_n K dX11_lets_77 1 rfl ?_
        refine k_get K 0 11 5 iX11_lets_X11 (Nat.le_of_ble_eq_true rfl) ((mS_0 cI cZ cC cG cB ad) _) rfl (by decide) fX11_lets_33 rfl dX11_lets_78 ?_
        refine k_aload_n K dX11_lets_81 1 rfl ?_
        refine k_get K 0 11 8 iX11_lets_X11 (Nat.le_of_ble_eq_true rfl) ((mS_0 cI cZ cC cG cB ad) _) rfl (by decide) fX11_lets_48 rfl dX11_lets_82 ?_
        refine k_get K 59 8 0 iX11_lets_X8 (Nat.le_of_ble_eq_true rfl) ((mS_59 cI cZ cC cG cB ad) _) rfl (by decide) fX11_lets_156 rfl dX11_lets_85 ?_
        refine k_aload_n K dX11_lets_88 1 rfl ?_
        refine k_get K 0 11 8 iX11_lets_X11 (Nat.le_of_ble_eq_true rfl) ((mS_0 cI cZ cC cG cB ad) _) rfl (by decide) fX11_lets_48 rfl dX11_lets_89 ?_
        refine k_get K 59 8 1 iX11_lets_X8 (Nat.le_of_ble_eq_true rfl) ((mS_59 cI cZ cC cG cB ad) _) rfl (by decide) fX11_lets_159 rfl dX11_lets_92 ?_
        refine k_aload_n K dX11_lets_95 1 rfl ?_
        refine k_get K 0 11 2 iX11_lets_X11 (Nat.le_of_ble_eq_true rfl) ((mS_0 cI cZ cC cG cB ad) _) rfl (by decide) fX11_lets_16 rfl dX11_lets_96 ?_
        refine k_get K 10 2 10 iX11_lets_X2 (Nat.le_of_ble_eq_true rfl) ((mS_10 cI cZ cC cG cB ad) _) rfl (by decide) fX11_lets_142 rfl dX11_lets_99 ?_
        refine k_iload_n K dX11_lets_102 2 rfl ?_
        obtain ⟨g16, h⟩ := gd_some h
        refine k_ild K 16 0 (Nat.le_of_ble_eq_true rfl) ((mS_16 cI cZ cC cG cB ad) _) rfl g16 dX11_lets_103 ?_
        obtain ⟨⟨r17, s18⟩, e19, h⟩ := bd_some h
        dsimp only at h
        refine k_callVv K 26 3 (Nat.le_of_ble_eq_true rfl) ((mS_26 cI cZ cC cG cB ad) _) rfl (ctX3_letCome e19) (cwV 3 K.ts gX11_lets_X3_letCome rfl rfl rfl hVX3_letCome ⟨Nat.le_of_ble_eq_true rfl, Nat.le_of_ble_eq_true rfl⟩) rfl rfl (Nat.le_of_ble_eq_true rfl) dX11_lets_104 ?_
        refine k_aload_n K dX11_lets_107 1 rfl ?_
        obtain ⟨⟨r20, s21⟩, e22, h⟩ := bd_some h
        dsimp only at h
        refine k_callVi K 0 11 (Nat.le_of_ble_eq_true rfl) ((mS_0 cI cZ cC cG cB ad) _) rfl (ctX11_endCode e22) (cwV 0 K.ts gX11_lets_X11_endCode rfl rfl rfl hVX11_endCode ⟨Nat.le_of_ble_eq_true rfl, Nat.le_of_ble_eq_true rfl⟩) rfl rfl (Nat.le_of_ble_eq_true rfl) dX11_lets_108 ?_
        exact ret_i hR h dX11_lets_111 trivial
      · have h := if_f q h
        refine k_bipush (x := (-2)) K dX11_lets_56 (by decide) ?_
        exact ret_i hR h dX11_lets_58 trivial
    · have h := if_t q h
      refine k_iconst (x := (-1)) K dX11_lets_25 (by decide) ?_
      exact ret_i hR h dX11_lets_26 trivial
-- X11_isWay (0, 0)
set_option maxRecDepth 100000 in
set_option maxHeartbeats 4000000 in
theorem ctX11_isWay {l : Launch} {D : va_G} {cI cZ cC cG cB : ClassId} {ad : Nat → Nat} {v0 : Int32} {σ : St} {res : (Int32 × St)} (h : mX11_isWay v0 σ = some res) : Ci l yX11_isWay wsX11_isWay 0 0 D vwCl (tysS cI cZ cC cG cB) nwS (mkS cI cZ cC cG cB ad) ad 75 [.int v0] σ res := by
  refine c_bool (cc := cX11_isWay) (maxL := 1) (by decide) rfl (Nat.le_of_ble_eq_true rfl) fun a b hn K hR => ?_
  unfold mX11_isWay at h
  have K : KS (GS l 0 0 D cI cZ cC cG cB ad a b (w_A ad 75)) cX11_isWay RX11 wsX11_isWay (some .boolean) := K
  have hn : x_n (GS l 0 0 D cI cZ cC cG cB ad a b (w_A ad 75)) = 1 := hn
  refine k_sub [0] rfl ?_
  refine k_iload_n K dX11_isWay_0 0 rfl ?_
  refine k_if_lt (tgt := 13) K dX11_isWay_1 (by decide) (fun q => ?_) (fun q => ?_)
  · have h := if_t q h
    refine k_iconst (x := 0) K dX11_isWay_13 (by decide) ?_
    exact ret_i hR h dX11_isWay_14 zb_0
  · have h := if_f q h
    refine k_iload_n K dX11_isWay_4 0 rfl ?_
    refine k_iconst (x := 4) K dX11_isWay_5 (by decide) ?_
    refine k_icmp_ge (tgt := 13) K dX11_isWay_6 (by decide) (fun q => ?_) (fun q => ?_)
    · have h := if_f q h
      refine k_iconst (x := 0) K dX11_isWay_13 (by decide) ?_
      exact ret_i hR h dX11_isWay_14 zb_0
    · have h := if_t q h
      refine k_iconst (x := 1) K dX11_isWay_9 (by decide) ?_
      refine k_goto (tgt := 14) K dX11_isWay_10 (by decide) ?_
      exact ret_i hR h dX11_isWay_14 zb_1
-- X11_sets (4, 107)
theorem iX11_sets_X11 : ∀ w ∈ wsX110, w ∈ wsX11_sets := fun _ h => List.mem_cons_of_mem _ (List.mem_append_left _ (List.mem_append_left _ (List.mem_append_right _ h)))
theorem iX11_sets_X3 : ∀ w ∈ wsX30, w ∈ wsX11_sets := fun _ h => List.mem_cons_of_mem _ (List.mem_append_left _ (List.mem_append_right _ h))
theorem fX11_sets_16 : Cond.fieldLink RX11 16 "SlopeCoins" "city" "LSlopeCoins$City;" ∈ wsX11_sets := by decide +kernel
theorem fX11_sets_33 : Cond.fieldLink RX11 33 "SlopeCoins" "ground" "LSlopeCoins$Ground;" ∈ wsX11_sets := by decide +kernel
theorem fX11_sets_174 : Cond.fieldLink RX11 174 "SlopeCoins$Ground" "planks" "I" ∈ wsX11_sets := by decide +kernel
set_option maxRecDepth 100000 in
set_option maxHeartbeats 4000000 in
theorem ctX11_sets {l : Launch} {D : va_G} {cI cZ cC cG cB : ClassId} {ad : Nat → Nat} {v1 : Int32} {v2 : Int32} {v3 : Int32} {σ : St} {res : (Int32 × St)} (h : mX11_sets v1 v2 v3 σ = some res) : Ci l yX11_sets wsX11_sets 4 107 D vwCl (tysS cI cZ cC cG cB) nwS (mkS cI cZ cC cG cB ad) ad 75 [.ref (ad 0), .int v1, .int v2, .int v3] σ res := by
  refine c_int (cc := cX11_sets) (maxL := 5) (by decide) rfl (Nat.le_of_ble_eq_true rfl) fun a b hn K hR => ?_
  unfold mX11_sets at h
  have K : KS (GS l 4 107 D cI cZ cC cG cB ad a b (w_A ad 75)) cX11_sets RX11 wsX11_sets (some .int) := K
  have hn : x_n (GS l 4 107 D cI cZ cC cG cB ad a b (w_A ad 75)) = 5 := hn
  refine k_sub [0, 1, 2, 3] rfl ?_
  refine k_aload_n K dX11_sets_0 0 rfl ?_
  refine k_get K 0 11 2 iX11_sets_X11 (Nat.le_of_ble_eq_true rfl) ((mS_0 cI cZ cC cG cB ad) _) rfl (by decide) fX11_sets_16 rfl dX11_sets_1 ?_
  refine k_iload_n K dX11_sets_4 1 rfl ?_
  refine k_iload_n K dX11_sets_5 2 rfl ?_
  obtain ⟨⟨r1, s2⟩, e3, h⟩ := bd_some h
  dsimp only at h
  refine k_callVi K 10 2 (Nat.le_of_ble_eq_true rfl) ((mS_10 cI cZ cC cG cB ad) _) rfl (ctX2_cellAt (by decide) e3) (cwV 2 K.ts gX11_sets_X2_cellAt rfl rfl rfl hVX2_cellAt ⟨Nat.le_of_ble_eq_true rfl, Nat.le_of_ble_eq_true rfl⟩) rfl rfl (Nat.le_of_ble_eq_true rfl) dX11_sets_6 ?_
  refine k_istore (lv' := [(4, _), (0, _), (1, _), (2, _), (3, _)]) K dX11_sets_9 (by rw [hn]; decide) rfl ?_
  refine k_iload K dX11_sets_11 0 rfl ?_
  refine k_iconst (x := (-1)) K dX11_sets_13 (by decide) ?_
  refine k_icmp_eq (tgt := 24) K dX11_sets_14 (by decide) (fun q => ?_) (fun q => ?_)
  · have h := if_t q h
    refine k_iconst (x := (-1)) K dX11_sets_24 (by decide) ?_
    exact ret_i hR h dX11_sets_25 trivial
  · have h := if_f q h
    refine k_iload_n K dX11_sets_17 4 rfl ?_
    obtain ⟨⟨r4, s5⟩, e6, h⟩ := bd_some h
    dsimp only at h
    refine k_callSi K (ctX11_isWay e6) (va_cwS 1 K.ts gX11_sets_X11_isWay rfl rfl rfl hSX11_isWay ⟨Nat.le_of_ble_eq_true rfl, Nat.le_of_ble_eq_true rfl⟩) rfl rfl (Nat.le_of_ble_eq_true rfl) dX11_sets_18 ?_
    refine k_if_ne (tgt := 26) K dX11_sets_21 (by decide) (fun q => ?_) (fun q => ?_)
    · have h := if_f q h
      refine k_aload_n K dX11_sets_26 1 rfl ?_
      refine k_iload K dX11_sets_27 0 rfl ?_
      obtain ⟨⟨r7, s8⟩, e9, h⟩ := bd_some h
      dsimp only at h
      refine k_callVi K 0 11 (Nat.le_of_ble_eq_true rfl) ((mS_0 cI cZ cC cG cB ad) _) rfl (ctX11_shutWays e9) (cwV 1 K.ts gX11_sets_X11_shutWays rfl rfl rfl hVX11_shutWays ⟨Nat.le_of_ble_eq_true rfl, Nat.le_of_ble_eq_true rfl⟩) rfl rfl (Nat.le_of_ble_eq_true rfl) dX11_sets_29 ?_
      refine k_iload_n K dX11_sets_32 4 rfl ?_
      refine k_ishr K dX11_sets_33 ?_
      refine k_iconst (x := 1) K dX11_sets_34 (by decide) ?_
      refine k_iand K dX11_sets_35 ?_
      refine k_if_eq (tgt := 42) K dX11_sets_36 (by decide) (fun q => ?_) (fun q => ?_)
      · have h := if_t q h
        refine k_aload_n K dX11_sets_42 1 rfl ?_
        refine k_get K 0 11 5 iX11_sets_X11 (Nat.le_of_ble_eq_true rfl) ((mS_0 cI cZ cC cG cB ad) _) rfl (by decide) fX11_sets_33 rfl dX11_sets_43 ?_
        refine k_get K 26 3 0 iX11_sets_X3 (Nat.le_of_ble_eq_true rfl) ((mS_26 cI cZ cC cG cB ad) _) rfl (by decide) fX11_sets_174 rfl dX11_sets_46 ?_
        refine k_bipush (x := 8) K dX11_sets_49 (by decide) ?_
        refine k_icmp_lt (tgt := 57) K dX11_sets_51 (by decide) (fun q => ?_) (fun q => ?_)
        · have h := if_t q h
          refine k_aload_n K dX11_sets_57 1 rfl ?_
          refine k_get K 0 11 5 iX11_sets_X11 (Nat.le_of_ble_eq_true rfl) ((mS_0 cI cZ cC cG cB ad) _) rfl (by decide) fX11_sets_33 rfl dX11_sets_58 ?_
          refine k_aload_n K dX11_sets_61 1 rfl ?_
          refine k_get K 0 11 2 iX11_sets_X11 (Nat.le_of_ble_eq_true rfl) ((mS_0 cI cZ cC cG cB ad) _) rfl (by decide) fX11_sets_16 rfl dX11_sets_62 ?_
          refine k_iload K dX11_sets_65 0 rfl ?_
          refine k_iload_n K dX11_sets_67 4 rfl ?_
          obtain ⟨⟨r10, s11⟩, e12, h⟩ := bd_some h
          dsimp only at h
          refine k_callVi K 26 3 (Nat.le_of_ble_eq_true rfl) ((mS_26 cI cZ cC cG cB ad) _) rfl (ctX3_changePlank e12) (cwV 3 K.ts gX11_sets_X3_changePlank rfl rfl rfl hVX3_changePlank ⟨Nat.le_of_ble_eq_true rfl, Nat.le_of_ble_eq_true rfl⟩) rfl rfl (Nat.le_of_ble_eq_true rfl) dX11_sets_68 ?_
          exact ret_i hR h dX11_sets_71 trivial
        · have h := if_f q h
          refine k_bipush (x := (-3)) K dX11_sets_54 (by decide) ?_
          exact ret_i hR h dX11_sets_56 trivial
      · have h := if_f q h
        refine k_bipush (x := (-2)) K dX11_sets_39 (by decide) ?_
        exact ret_i hR h dX11_sets_41 trivial
    · have h := if_t q h
      refine k_iconst (x := (-1)) K dX11_sets_24 (by decide) ?_
      exact ret_i hR h dX11_sets_25 trivial
-- X11_takes (4, 107)
theorem iX11_takes_X11 : ∀ w ∈ wsX110, w ∈ wsX11_takes := fun _ h => List.mem_cons_of_mem _ (List.mem_append_left _ (List.mem_append_left _ (List.mem_append_right _ h)))
theorem iX11_takes_X3 : ∀ w ∈ wsX30, w ∈ wsX11_takes := fun _ h => List.mem_cons_of_mem _ (List.mem_append_left _ (List.mem_append_right _ h))
theorem fX11_takes_16 : Cond.fieldLink RX11 16 "SlopeCoins" "city" "LSlopeCoins$City;" ∈ wsX11_takes := by decide +kernel
theorem fX11_takes_33 : Cond.fieldLink RX11 33 "SlopeCoins" "ground" "LSlopeCoins$Ground;" ∈ wsX11_takes := by decide +kernel
theorem fX11_takes_181 : Cond.fieldLink RX11 181 "SlopeCoins$Ground" "plank" "[I" ∈ wsX11_takes := by decide +kernel
set_option maxRecDepth 100000 in
set_option maxHeartbeats 4000000 in
theorem ctX11_takes {l : Launch} {D : va_G} {cI cZ cC cG cB : ClassId} {ad : Nat → Nat} {v1 : Int32} {v2 : Int32} {v3 : Int32} {σ : St} {res : (Int32 × St)} (h : mX11_takes v1 v2 v3 σ = some res) : Ci l yX11_takes wsX11_takes 4 107 D vwCl (tysS cI cZ cC cG cB) nwS (mkS cI cZ cC cG cB ad) ad 75 [.ref (ad 0), .int v1, .int v2, .int v3] σ res := by
  refine c_int (cc := cX11_takes) (maxL := 5) (by decide) rfl (Nat.le_of_ble_eq_true rfl) fun a b hn K hR => ?_
  unfold mX11_takes at h
  have K : KS (GS l 4 107 D cI cZ cC cG cB ad a b (w_A ad 75)) cX11_takes RX11 wsX11_takes (some .int) := K
  have hn : x_n (GS l 4 107 D cI cZ cC cG cB ad a b (w_A ad 75)) = 5 := hn
  refine k_sub [0, 1, 2, 3] rfl ?_
  refine k_aload_n K dX11_takes_0 0 rfl ?_
  refine k_get K 0 11 2 iX11_takes_X11 (Nat.le_of_ble_eq_true rfl) ((mS_0 cI cZ cC cG cB ad) _) rfl (by decide) fX11_takes_16 rfl dX11_takes_1 ?_
  refine k_iload_n K dX11_takes_4 1 rfl ?_
  refine k_iload_n K dX11_takes_5 2 rfl ?_
  obtain ⟨⟨r1, s2⟩, e3, h⟩ := bd_some h
  dsimp only at h
  refine k_callVi K 10 2 (Nat.le_of_ble_eq_true rfl) ((mS_10 cI cZ cC cG cB ad) _) rfl (ctX2_cellAt (by decide) e3) (cwV 2 K.ts gX11_takes_X2_cellAt rfl rfl rfl hVX2_cellAt ⟨Nat.le_of_ble_eq_true rfl, Nat.le_of_ble_eq_true rfl⟩) rfl rfl (Nat.le_of_ble_eq_true rfl) dX11_takes_6 ?_
  refine k_istore (lv' := [(4, _), (0, _), (1, _), (2, _), (3, _)]) K dX11_takes_9 (by rw [hn]; decide) rfl ?_
  refine k_iload K dX11_takes_11 0 rfl ?_
  refine k_iconst (x := (-1)) K dX11_takes_13 (by decide) ?_
  refine k_icmp_eq (tgt := 24) K dX11_takes_14 (by decide) (fun q => ?_) (fun q => ?_)
  · have h := if_t q h
    refine k_iconst (x := (-1)) K dX11_takes_24 (by decide) ?_
    exact ret_i hR h dX11_takes_25 trivial
  · have h := if_f q h
    refine k_iload_n K dX11_takes_17 4 rfl ?_
    obtain ⟨⟨r4, s5⟩, e6, h⟩ := bd_some h
    dsimp only at h
    refine k_callSi K (ctX11_isWay e6) (va_cwS 1 K.ts gX11_takes_X11_isWay rfl rfl rfl hSX11_isWay ⟨Nat.le_of_ble_eq_true rfl, Nat.le_of_ble_eq_true rfl⟩) rfl rfl (Nat.le_of_ble_eq_true rfl) dX11_takes_18 ?_
    refine k_if_ne (tgt := 26) K dX11_takes_21 (by decide) (fun q => ?_) (fun q => ?_)
    · have h := if_f q h
      refine k_aload_n K dX11_takes_26 1 rfl ?_
      refine k_get K 0 11 5 iX11_takes_X11 (Nat.le_of_ble_eq_true rfl) ((mS_0 cI cZ cC cG cB ad) _) rfl (by decide) fX11_takes_33 rfl dX11_takes_27 ?_
      refine k_get K 26 3 3 iX11_takes_X3 (Nat.le_of_ble_eq_true rfl) ((mS_26 cI cZ cC cG cB ad) _) rfl (by decide) fX11_takes_181 rfl dX11_takes_30 ?_
      refine k_iload K dX11_takes_33 0 rfl ?_
      obtain ⟨g7, h⟩ := gd_some h
      refine k_ild K 28 0 (Nat.le_of_ble_eq_true rfl) ((mS_28 cI cZ cC cG cB ad) _) rfl g7 dX11_takes_35 ?_
      refine k_iload_n K dX11_takes_36 4 rfl ?_
      refine k_ishr K dX11_takes_37 ?_
      refine k_iconst (x := 1) K dX11_takes_38 (by decide) ?_
      refine k_iand K dX11_takes_39 ?_
      refine k_if_ne (tgt := 46) K dX11_takes_40 (by decide) (fun q => ?_) (fun q => ?_)
      · have h := if_f q h
        refine k_aload_n K dX11_takes_46 1 rfl ?_
        refine k_get K 0 11 5 iX11_takes_X11 (Nat.le_of_ble_eq_true rfl) ((mS_0 cI cZ cC cG cB ad) _) rfl (by decide) fX11_takes_33 rfl dX11_takes_47 ?_
        refine k_aload_n K dX11_takes_50 1 rfl ?_
        refine k_get K 0 11 2 iX11_takes_X11 (Nat.le_of_ble_eq_true rfl) ((mS_0 cI cZ cC cG cB ad) _) rfl (by decide) fX11_takes_16 rfl dX11_takes_51 ?_
        refine k_iload K dX11_takes_54 0 rfl ?_
        refine k_iload_n K dX11_takes_56 4 rfl ?_
        obtain ⟨⟨r8, s9⟩, e10, h⟩ := bd_some h
        dsimp only at h
        refine k_callVi K 26 3 (Nat.le_of_ble_eq_true rfl) ((mS_26 cI cZ cC cG cB ad) _) rfl (ctX3_changePlank e10) (cwV 3 K.ts gX11_takes_X3_changePlank rfl rfl rfl hVX3_changePlank ⟨Nat.le_of_ble_eq_true rfl, Nat.le_of_ble_eq_true rfl⟩) rfl rfl (Nat.le_of_ble_eq_true rfl) dX11_takes_57 ?_
        exact ret_i hR h dX11_takes_60 trivial
      · have h := if_t q h
        refine k_bipush (x := (-2)) K dX11_takes_43 (by decide) ?_
        exact ret_i hR h dX11_takes_45 trivial
    · have h := if_t q h
      refine k_iconst (x := (-1)) K dX11_takes_24 (by decide) ?_
      exact ret_i hR h dX11_takes_25 trivial
-- X11_isHeight (0, 0)
set_option maxRecDepth 100000 in
set_option maxHeartbeats 4000000 in
theorem ctX11_isHeight {l : Launch} {D : va_G} {cI cZ cC cG cB : ClassId} {ad : Nat → Nat} {v0 : Int32} {σ : St} {res : (Int32 × St)} (h : mX11_isHeight v0 σ = some res) : Ci l yX11_isHeight wsX11_isHeight 0 0 D vwCl (tysS cI cZ cC cG cB) nwS (mkS cI cZ cC cG cB ad) ad 75 [.int v0] σ res := by
  refine c_bool (cc := cX11_isHeight) (maxL := 1) (by decide) rfl (Nat.le_of_ble_eq_true rfl) fun a b hn K hR => ?_
  unfold mX11_isHeight at h
  have K : KS (GS l 0 0 D cI cZ cC cG cB ad a b (w_A ad 75)) cX11_isHeight RX11 wsX11_isHeight (some .boolean) := K
  have hn : x_n (GS l 0 0 D cI cZ cC cG cB ad a b (w_A ad 75)) = 1 := hn
  refine k_sub [0] rfl ?_
  refine k_iload_n K dX11_isHeight_0 0 rfl ?_
  refine k_if_lt (tgt := 14) K dX11_isHeight_1 (by decide) (fun q => ?_) (fun q => ?_)
  · have h := if_t q h
    refine k_iconst (x := 0) K dX11_isHeight_14 (by decide) ?_
    exact ret_i hR h dX11_isHeight_15 zb_0
  · have h := if_f q h
    refine k_iload_n K dX11_isHeight_4 0 rfl ?_
    refine k_bipush (x := 9) K dX11_isHeight_5 (by decide) ?_
    refine k_icmp_gt (tgt := 14) K dX11_isHeight_7 (by decide) (fun q => ?_) (fun q => ?_)
    · have h := if_t q h
      refine k_iconst (x := 0) K dX11_isHeight_14 (by decide) ?_
      exact ret_i hR h dX11_isHeight_15 zb_0
    · have h := if_f q h
      refine k_iconst (x := 1) K dX11_isHeight_10 (by decide) ?_
      refine k_goto (tgt := 15) K dX11_isHeight_11 (by decide) ?_
      exact ret_i hR h dX11_isHeight_15 zb_1
-- X11_cobble (4, 106)
theorem iX11_cobble_X11 : ∀ w ∈ wsX110, w ∈ wsX11_cobble := fun _ h => List.mem_cons_of_mem _ (List.mem_append_left _ (List.mem_append_left _ (List.mem_append_right _ h)))
theorem iX11_cobble_X3 : ∀ w ∈ wsX30, w ∈ wsX11_cobble := fun _ h => List.mem_cons_of_mem _ (List.mem_append_left _ (List.mem_append_right _ h))
theorem fX11_cobble_16 : Cond.fieldLink RX11 16 "SlopeCoins" "city" "LSlopeCoins$City;" ∈ wsX11_cobble := by decide +kernel
theorem fX11_cobble_33 : Cond.fieldLink RX11 33 "SlopeCoins" "ground" "LSlopeCoins$Ground;" ∈ wsX11_cobble := by decide +kernel
theorem fX11_cobble_113 : Cond.fieldLink RX11 113 "SlopeCoins$Ground" "height" "[I" ∈ wsX11_cobble := by decide +kernel
set_option maxRecDepth 100000 in
set_option maxHeartbeats 4000000 in
theorem wX11_cobble_38 {l : Launch} {D : va_G} {cI cZ cC cG cB : ClassId} {ad : Nat → Nat} {a : Program × Env × State × MethodId} {b : Array Value × List Frame × Method × Code × (State → Prop) × Nat} {A : Nat → Prop} (K : KS (GS l 4 106 D cI cZ cC cG cB ad a b A) cX11_cobble RX11 wsX11_cobble (some .int)) (hn : x_n (GS l 4 106 D cI cZ cC cG cB ad a b A) = 6) {res : (Int32 × St)} (hR : HRi (GS l 4 106 D cI cZ cC cG cB ad a b A) cX11_cobble tb res) : ∀ (v4 : Int32), ∀ (t0 : Int32), ∀ (σ : St), mX11_cobble_38 v4 t0 σ = some res → Wk (GS l 4 106 D cI cZ cC cG cB ad a b A) 38 [(0, .ref (ad 0)), (4, .int v4)] [.int t0] σ := by
  intro v4 t0 σ h
  unfold mX11_cobble_38 at h
  refine k_istore (lv' := [(5, _), (0, _), (4, _)]) K dX11_cobble_38 (by rw [hn]; decide) rfl ?_
  refine k_aload_n K dX11_cobble_40 1 rfl ?_
  refine k_get K 0 11 5 iX11_cobble_X11 (Nat.le_of_ble_eq_true rfl) ((mS_0 cI cZ cC cG cB ad) _) rfl (by decide) fX11_cobble_33 rfl dX11_cobble_41 ?_
  refine k_get K 26 3 2 iX11_cobble_X3 (Nat.le_of_ble_eq_true rfl) ((mS_26 cI cZ cC cG cB ad) _) rfl (by decide) fX11_cobble_113 rfl dX11_cobble_44 ?_
  refine k_iload K dX11_cobble_47 2 rfl ?_
  obtain ⟨g4, h⟩ := gd_some h
  refine k_ild K 27 0 (Nat.le_of_ble_eq_true rfl) ((mS_27 cI cZ cC cG cB ad) _) rfl g4 dX11_cobble_49 ?_
  refine k_iload K dX11_cobble_50 0 rfl ?_
  refine k_iadd K dX11_cobble_52 ?_
  obtain ⟨⟨r5, s6⟩, e7, h⟩ := bd_some h
  dsimp only at h
  refine k_callSi K (ctX11_isHeight e7) (va_cwS 1 K.ts gX11_cobble_X11_isHeight rfl rfl rfl hSX11_isHeight ⟨Nat.le_of_ble_eq_true rfl, Nat.le_of_ble_eq_true rfl⟩) rfl rfl (Nat.le_of_ble_eq_true rfl) dX11_cobble_53 ?_
  refine k_if_ne (tgt := 62) K dX11_cobble_56 (by decide) (fun q => ?_) (fun q => ?_)
  · have h := if_f q h
    refine k_aload_n K dX11_cobble_62 1 rfl ?_
    refine k_get K 0 11 5 iX11_cobble_X11 (Nat.le_of_ble_eq_true rfl) ((mS_0 cI cZ cC cG cB ad) _) rfl (by decide) fX11_cobble_33 rfl dX11_cobble_63 ?_
    refine k_iload K dX11_cobble_66 2 rfl ?_
    refine k_iload K dX11_cobble_68 0 rfl ?_
    obtain ⟨⟨r8, s9⟩, e10, h⟩ := bd_some h
    dsimp only at h
    refine k_callVi K 26 3 (Nat.le_of_ble_eq_true rfl) ((mS_26 cI cZ cC cG cB ad) _) rfl (ctX3_moveCobble e10) (cwV 2 K.ts gX11_cobble_X3_moveCobble rfl rfl rfl hVX3_moveCobble ⟨Nat.le_of_ble_eq_true rfl, Nat.le_of_ble_eq_true rfl⟩) rfl rfl (Nat.le_of_ble_eq_true rfl) dX11_cobble_70 ?_
    exact ret_i hR h dX11_cobble_73 trivial
  · have h := if_t q h
    refine k_bipush (x := (-2)) K dX11_cobble_59 (by decide) ?_
    exact ret_i hR h dX11_cobble_61 trivial
set_option maxRecDepth 100000 in
set_option maxHeartbeats 4000000 in
theorem wX11_cobble_28 {l : Launch} {D : va_G} {cI cZ cC cG cB : ClassId} {ad : Nat → Nat} {a : Program × Env × State × MethodId} {b : Array Value × List Frame × Method × Code × (State → Prop) × Nat} {A : Nat → Prop} (K : KS (GS l 4 106 D cI cZ cC cG cB ad a b A) cX11_cobble RX11 wsX11_cobble (some .int)) (hn : x_n (GS l 4 106 D cI cZ cC cG cB ad a b A) = 6) {res : (Int32 × St)} (hR : HRi (GS l 4 106 D cI cZ cC cG cB ad a b A) cX11_cobble tb res) : ∀ (v3 : Int32), ∀ (v4 : Int32), ∀ (σ : St), mX11_cobble_28 v3 v4 σ = some res → Wk (GS l 4 106 D cI cZ cC cG cB ad a b A) 28 [(0, .ref (ad 0)), (3, .int v3), (4, .int v4)] [] σ := by
  intro v3 v4 σ h
  unfold mX11_cobble_28 at h
  refine k_iload_n K dX11_cobble_28 1 rfl ?_
  refine k_iconst (x := 1) K dX11_cobble_29 (by decide) ?_
  refine k_icmp_ne (tgt := 37) K dX11_cobble_30 (by decide) (fun q => ?_) (fun q => ?_)
  · have h := if_f q h
    refine k_iconst (x := (-1)) K dX11_cobble_37 (by decide) ?_
    exact k_sub [0, 2] rfl (wX11_cobble_38 K hn hR _ _ _ h)
  · have h := if_t q h
    refine k_iconst (x := 1) K dX11_cobble_33 (by decide) ?_
    refine k_goto (tgt := 38) K dX11_cobble_34 (by decide) ?_
    exact k_sub [0, 2] rfl (wX11_cobble_38 K hn hR _ _ _ h)
set_option maxRecDepth 100000 in
set_option maxHeartbeats 4000000 in
theorem ctX11_cobble {l : Launch} {D : va_G} {cI cZ cC cG cB : ClassId} {ad : Nat → Nat} {v1 : Int32} {v2 : Int32} {v3 : Int32} {σ : St} {res : (Int32 × St)} (h : mX11_cobble v1 v2 v3 σ = some res) : Ci l yX11_cobble wsX11_cobble 4 106 D vwCl (tysS cI cZ cC cG cB) nwS (mkS cI cZ cC cG cB ad) ad 75 [.ref (ad 0), .int v1, .int v2, .int v3] σ res := by
  refine c_int (cc := cX11_cobble) (maxL := 6) (by decide) rfl (Nat.le_of_ble_eq_true rfl) fun a b hn K hR => ?_
  unfold mX11_cobble at h
  have K : KS (GS l 4 106 D cI cZ cC cG cB ad a b (w_A ad 75)) cX11_cobble RX11 wsX11_cobble (some .int) := K
  have hn : x_n (GS l 4 106 D cI cZ cC cG cB ad a b (w_A ad 75)) = 6 := hn
  refine k_sub [0, 1, 2, 3] rfl ?_
  refine k_aload_n K dX11_cobble_0 0 rfl ?_
  refine k_get K 0 11 2 iX11_cobble_X11 (Nat.le_of_ble_eq_true rfl) ((mS_0 cI cZ cC cG cB ad) _) rfl (by decide) fX11_cobble_16 rfl dX11_cobble_1 ?_
  refine k_iload_n K dX11_cobble_4 1 rfl ?_
  refine k_iload_n K dX11_cobble_5 2 rfl ?_
  obtain ⟨⟨r1, s2⟩, e3, h⟩ := bd_some h
  dsimp only at h
  refine k_callVi K 10 2 (Nat.le_of_ble_eq_true rfl) ((mS_10 cI cZ cC cG cB ad) _) rfl (ctX2_cellAt (by decide) e3) (cwV 2 K.ts gX11_cobble_X2_cellAt rfl rfl rfl hVX2_cellAt ⟨Nat.le_of_ble_eq_true rfl, Nat.le_of_ble_eq_true rfl⟩) rfl rfl (Nat.le_of_ble_eq_true rfl) dX11_cobble_6 ?_
  refine k_istore (lv' := [(4, _), (0, _), (1, _), (2, _), (3, _)]) K dX11_cobble_9 (by rw [hn]; decide) rfl ?_
  refine k_iload K dX11_cobble_11 0 rfl ?_
  refine k_iconst (x := (-1)) K dX11_cobble_13 (by decide) ?_
  refine k_icmp_eq (tgt := 26) K dX11_cobble_14 (by decide) (fun q => ?_) (fun q => ?_)
  · have h := if_t q h
    refine k_iconst (x := (-1)) K dX11_cobble_26 (by decide) ?_
    exact ret_i hR h dX11_cobble_27 trivial
  · have h := if_f q h
    refine k_iload_n K dX11_cobble_17 4 rfl ?_
    refine k_if_eq (tgt := 28) K dX11_cobble_18 (by decide) (fun q => ?_) (fun q => ?_)
    · have h := if_t q h
      exact k_sub [1, 4, 0] rfl (wX11_cobble_28 K hn hR _ _ _ h)
    · have h := if_f q h
      refine k_iload_n K dX11_cobble_21 4 rfl ?_
      refine k_iconst (x := 1) K dX11_cobble_22 (by decide) ?_
      refine k_icmp_eq (tgt := 28) K dX11_cobble_23 (by decide) (fun q => ?_) (fun q => ?_)
      · have h := if_t q h
        exact k_sub [1, 4, 0] rfl (wX11_cobble_28 K hn hR _ _ _ h)
      · have h := if_f q h
        refine k_iconst (x := (-1)) K dX11_cobble_26 (by decide) ?_
        exact ret_i hR h dX11_cobble_27 trivial
-- X11_sweep (4, 106)
theorem iX11_sweep_X11 : ∀ w ∈ wsX110, w ∈ wsX11_sweep := fun _ h => List.mem_cons_of_mem _ (List.mem_append_left _ (List.mem_append_left _ (List.mem_append_right _ h)))
theorem iX11_sweep_X3 : ∀ w ∈ wsX30, w ∈ wsX11_sweep := fun _ h => List.mem_cons_of_mem _ (List.mem_append_left _ (List.mem_append_right _ h))
theorem fX11_sweep_16 : Cond.fieldLink RX11 16 "SlopeCoins" "city" "LSlopeCoins$City;" ∈ wsX11_sweep := by decide +kernel
theorem fX11_sweep_33 : Cond.fieldLink RX11 33 "SlopeCoins" "ground" "LSlopeCoins$Ground;" ∈ wsX11_sweep := by decide +kernel
theorem fX11_sweep_119 : Cond.fieldLink RX11 119 "SlopeCoins$Ground" "lie" "[I" ∈ wsX11_sweep := by decide +kernel
set_option maxRecDepth 100000 in
set_option maxHeartbeats 4000000 in
theorem ctX11_sweep {l : Launch} {D : va_G} {cI cZ cC cG cB : ClassId} {ad : Nat → Nat} {v1 : Int32} {v2 : Int32} {σ : St} {res : (Int32 × St)} (h : mX11_sweep v1 v2 σ = some res) : Ci l yX11_sweep wsX11_sweep 4 106 D vwCl (tysS cI cZ cC cG cB) nwS (mkS cI cZ cC cG cB ad) ad 75 [.ref (ad 0), .int v1, .int v2] σ res := by
  refine c_int (cc := cX11_sweep) (maxL := 4) (by decide) rfl (Nat.le_of_ble_eq_true rfl) fun a b hn K hR => ?_
  unfold mX11_sweep at h
  have K : KS (GS l 4 106 D cI cZ cC cG cB ad a b (w_A ad 75)) cX11_sweep RX11 wsX11_sweep (some .int) := K
  have hn : x_n (GS l 4 106 D cI cZ cC cG cB ad a b (w_A ad 75)) = 4 := hn
  refine k_sub [0, 1, 2] rfl ?_
  refine k_aload_n K dX11_sweep_0 0 rfl ?_
  refine k_get K 0 11 2 iX11_sweep_X11 (Nat.le_of_ble_eq_true rfl) ((mS_0 cI cZ cC cG cB ad) _) rfl (by decide) fX11_sweep_16 rfl dX11_sweep_1 ?_
  refine k_iload_n K dX11_sweep_4 1 rfl ?_
  refine k_iload_n K dX11_sweep_5 2 rfl ?_
  obtain ⟨⟨r1, s2⟩, e3, h⟩ := bd_some h
  dsimp only at h
  refine k_callVi K 10 2 (Nat.le_of_ble_eq_true rfl) ((mS_10 cI cZ cC cG cB ad) _) rfl (ctX2_cellAt (by decide) e3) (cwV 2 K.ts gX11_sweep_X2_cellAt rfl rfl rfl hVX2_cellAt ⟨Nat.le_of_ble_eq_true rfl, Nat.le_of_ble_eq_true rfl⟩) rfl rfl (Nat.le_of_ble_eq_true rfl) dX11_sweep_6 ?_
  refine k_istore_n (lv' := [(3, _), (0, _), (1, _), (2, _)]) K dX11_sweep_9 (by rw [hn]; decide) rfl ?_
  refine k_iload_n K dX11_sweep_10 0 rfl ?_
  refine k_iconst (x := (-1)) K dX11_sweep_11 (by decide) ?_
  refine k_icmp_ne (tgt := 17) K dX11_sweep_12 (by decide) (fun q => ?_) (fun q => ?_)
  · have h := if_f q h
    refine k_aload_n K dX11_sweep_17 1 rfl ?_
    refine k_get K 0 11 5 iX11_sweep_X11 (Nat.le_of_ble_eq_true rfl) ((mS_0 cI cZ cC cG cB ad) _) rfl (by decide) fX11_sweep_33 rfl dX11_sweep_18 ?_
    refine k_get K 26 3 4 iX11_sweep_X3 (Nat.le_of_ble_eq_true rfl) ((mS_26 cI cZ cC cG cB ad) _) rfl (by decide) fX11_sweep_119 rfl dX11_sweep_21 ?_
    refine k_iload_n K dX11_sweep_24 0 rfl ?_
    obtain ⟨g4, h⟩ := gd_some h
    refine k_ild K 29 0 (Nat.le_of_ble_eq_true rfl) ((mS_29 cI cZ cC cG cB ad) _) rfl g4 dX11_sweep_25 ?_
    refine k_if_ne (tgt := 32) K dX11_sweep_26 (by decide) (fun q => ?_) (fun q => ?_)
    · have h := if_f q h
      refine k_aload_n K dX11_sweep_32 1 rfl ?_
      refine k_get K 0 11 5 iX11_sweep_X11 (Nat.le_of_ble_eq_true rfl) ((mS_0 cI cZ cC cG cB ad) _) rfl (by decide) fX11_sweep_33 rfl dX11_sweep_33 ?_
      refine k_iload_n K dX11_sweep_36 0 rfl ?_
      obtain ⟨⟨r5, s6⟩, e7, h⟩ := bd_some h
      dsimp only at h
      refine k_callVi K 26 3 (Nat.le_of_ble_eq_true rfl) ((mS_26 cI cZ cC cG cB ad) _) rfl (ctX3_sweepAway e7) (cwV 1 K.ts gX11_sweep_X3_sweepAway rfl rfl rfl hVX3_sweepAway ⟨Nat.le_of_ble_eq_true rfl, Nat.le_of_ble_eq_true rfl⟩) rfl rfl (Nat.le_of_ble_eq_true rfl) dX11_sweep_37 ?_
      exact ret_i hR h dX11_sweep_40 trivial
    · have h := if_t q h
      refine k_bipush (x := (-2)) K dX11_sweep_29 (by decide) ?_
      exact ret_i hR h dX11_sweep_31 trivial
  · have h := if_t q h
    refine k_iconst (x := (-1)) K dX11_sweep_15 (by decide) ?_
    exact ret_i hR h dX11_sweep_16 trivial
-- X11_undo (3, 70)
theorem iX11_undo_X11 : ∀ w ∈ wsX110, w ∈ wsX11_undo := fun _ h => List.mem_cons_of_mem _ (List.mem_append_left _ (List.mem_append_left _ (List.mem_append_right _ h)))
theorem iX11_undo_X3 : ∀ w ∈ wsX30, w ∈ wsX11_undo := fun _ h => List.mem_cons_of_mem _ (List.mem_append_left _ (List.mem_append_right _ h))
theorem fX11_undo_16 : Cond.fieldLink RX11 16 "SlopeCoins" "city" "LSlopeCoins$City;" ∈ wsX11_undo := by decide +kernel
theorem fX11_undo_33 : Cond.fieldLink RX11 33 "SlopeCoins" "ground" "LSlopeCoins$Ground;" ∈ wsX11_undo := by decide +kernel
theorem fX11_undo_193 : Cond.fieldLink RX11 193 "SlopeCoins$Ground" "deeds" "I" ∈ wsX11_undo := by decide +kernel
set_option maxRecDepth 100000 in
set_option maxHeartbeats 4000000 in
theorem ctX11_undo {l : Launch} {D : va_G} {cI cZ cC cG cB : ClassId} {ad : Nat → Nat} {σ : St} {res : (Int32 × St)} (h : mX11_undo σ = some res) : Ci l yX11_undo wsX11_undo 3 70 D vwCl (tysS cI cZ cC cG cB) nwS (mkS cI cZ cC cG cB ad) ad 75 [.ref (ad 0)] σ res := by
  refine c_int (cc := cX11_undo) (maxL := 1) (by decide) rfl (Nat.le_of_ble_eq_true rfl) fun a b hn K hR => ?_
  unfold mX11_undo at h
  have K : KS (GS l 3 70 D cI cZ cC cG cB ad a b (w_A ad 75)) cX11_undo RX11 wsX11_undo (some .int) := K
  have hn : x_n (GS l 3 70 D cI cZ cC cG cB ad a b (w_A ad 75)) = 1 := hn
  refine k_sub [0] rfl ?_
  refine k_aload_n K dX11_undo_0 0 rfl ?_
  refine k_get K 0 11 5 iX11_undo_X11 (Nat.le_of_ble_eq_true rfl) ((mS_0 cI cZ cC cG cB ad) _) rfl (by decide) fX11_undo_33 rfl dX11_undo_1 ?_
  refine k_get K 26 3 1 iX11_undo_X3 (Nat.le_of_ble_eq_true rfl) ((mS_26 cI cZ cC cG cB ad) _) rfl (by decide) fX11_undo_193 rfl dX11_undo_4 ?_
  refine k_iconst (x := 1) K dX11_undo_7 (by decide) ?_
  refine k_icmp_ge (tgt := 14) K dX11_undo_8 (by decide) (fun q => ?_) (fun q => ?_)
  · have h := if_f q h
    refine k_aload_n K dX11_undo_14 0 rfl ?_
    refine k_get K 0 11 5 iX11_undo_X11 (Nat.le_of_ble_eq_true rfl) ((mS_0 cI cZ cC cG cB ad) _) rfl (by decide) fX11_undo_33 rfl dX11_undo_15 ?_
    refine k_aload_n K dX11_undo_18 0 rfl ?_
    refine k_get K 0 11 2 iX11_undo_X11 (Nat.le_of_ble_eq_true rfl) ((mS_0 cI cZ cC cG cB ad) _) rfl (by decide) fX11_undo_16 rfl dX11_undo_19 ?_
    obtain ⟨⟨r1, s2⟩, e3, h⟩ := bd_some h
    dsimp only at h
    refine k_callVi K 26 3 (Nat.le_of_ble_eq_true rfl) ((mS_26 cI cZ cC cG cB ad) _) rfl (ctX3_takeBack e3) (cwV 1 K.ts gX11_undo_X3_takeBack rfl rfl rfl hVX3_takeBack ⟨Nat.le_of_ble_eq_true rfl, Nat.le_of_ble_eq_true rfl⟩) rfl rfl (Nat.le_of_ble_eq_true rfl) dX11_undo_22 ?_
    exact ret_i hR h dX11_undo_25 trivial
  · have h := if_t q h
    refine k_bipush (x := (-2)) K dX11_undo_11 (by decide) ?_
    exact ret_i hR h dX11_undo_13 trivial
-- X11_endsAt (3, 84)
theorem iX11_endsAt_X11 : ∀ w ∈ wsX110, w ∈ wsX11_endsAt := fun _ h => List.mem_cons_of_mem _ (List.mem_append_left _ (List.mem_append_left _ (List.mem_append_left _ (List.mem_append_right _ h))))
theorem iX11_endsAt_X8 : ∀ w ∈ wsX80, w ∈ wsX11_endsAt := fun _ h => List.mem_cons_of_mem _ (List.mem_append_left _ (List.mem_append_left _ (List.mem_append_right _ h)))
theorem fX11_endsAt_16 : Cond.fieldLink RX11 16 "SlopeCoins" "city" "LSlopeCoins$City;" ∈ wsX11_endsAt := by decide +kernel
theorem fX11_endsAt_33 : Cond.fieldLink RX11 33 "SlopeCoins" "ground" "LSlopeCoins$Ground;" ∈ wsX11_endsAt := by decide +kernel
theorem fX11_endsAt_48 : Cond.fieldLink RX11 48 "SlopeCoins" "roll" "LSlopeCoins$Roll;" ∈ wsX11_endsAt := by decide +kernel
theorem fX11_endsAt_156 : Cond.fieldLink RX11 156 "SlopeCoins$Roll" "at" "I" ∈ wsX11_endsAt := by decide +kernel
set_option maxRecDepth 100000 in
set_option maxHeartbeats 4000000 in
theorem ctX11_endsAt {l : Launch} {D : va_G} {cI cZ cC cG cB : ClassId} {ad : Nat → Nat} {v1 : Int32} {v2 : Int32} {v3 : Int32} {σ : St} {res : (Int32 × St)} (h : mX11_endsAt v1 v2 v3 σ = some res) : Ci l yX11_endsAt wsX11_endsAt 3 84 D vwCl (tysS cI cZ cC cG cB) nwS (mkS cI cZ cC cG cB ad) ad 75 [.ref (ad 0), .int v1, .int v2, .int v3] σ res := by
  refine c_bool (cc := cX11_endsAt) (maxL := 4) (by decide) rfl (Nat.le_of_ble_eq_true rfl) fun a b hn K hR => ?_
  unfold mX11_endsAt at h
  have K : KS (GS l 3 84 D cI cZ cC cG cB ad a b (w_A ad 75)) cX11_endsAt RX11 wsX11_endsAt (some .boolean) := K
  have hn : x_n (GS l 3 84 D cI cZ cC cG cB ad a b (w_A ad 75)) = 4 := hn
  refine k_sub [0, 1, 2, 3] rfl ?_
  refine k_aload_n K dX11_endsAt_0 0 rfl ?_
  refine k_get K 0 11 8 iX11_endsAt_X11 (Nat.le_of_ble_eq_true rfl) ((mS_0 cI cZ cC cG cB ad) _) rfl (by decide) fX11_endsAt_48 rfl dX11_endsAt_1 ?_
  refine k_aload_n K dX11_endsAt_4 0 rfl ?_
  refine k_get K 0 11 2 iX11_endsAt_X11 (Nat.le_of_ble_eq_true rfl) ((mS_0 cI cZ cC cG cB ad) _) rfl (by decide) fX11_endsAt_16 rfl dX11_endsAt_5 ?_
  refine k_aload_n K dX11_endsAt_8 0 rfl ?_
  refine k_get K 0 11 5 iX11_endsAt_X11 (Nat.le_of_ble_eq_true rfl) ((mS_0 cI cZ cC cG cB ad) _) rfl (by decide) fX11_endsAt_33 rfl dX11_endsAt_9 ?_
  refine k_iload_n K dX11_endsAt_12 1 rfl ?_
  refine k_iload_n K dX11_endsAt_13 2 rfl ?_
  obtain ⟨⟨r1, s2⟩, e3, h⟩ := bd_some h
  dsimp only at h
  refine k_callVv K 59 8 (Nat.le_of_ble_eq_true rfl) ((mS_59 cI cZ cC cG cB ad) _) rfl (ctX8_goAs (by decide) e3) (cwV 4 K.ts gX11_endsAt_X8_goAs rfl rfl rfl hVX8_goAs ⟨Nat.le_of_ble_eq_true rfl, Nat.le_of_ble_eq_true rfl⟩) rfl rfl (Nat.le_of_ble_eq_true rfl) dX11_endsAt_14 ?_
  refine k_aload_n K dX11_endsAt_17 0 rfl ?_
  refine k_get K 0 11 8 iX11_endsAt_X11 (Nat.le_of_ble_eq_true rfl) ((mS_0 cI cZ cC cG cB ad) _) rfl (by decide) fX11_endsAt_48 rfl dX11_endsAt_18 ?_
  refine k_get K 59 8 0 iX11_endsAt_X8 (Nat.le_of_ble_eq_true rfl) ((mS_59 cI cZ cC cG cB ad) _) rfl (by decide) fX11_endsAt_156 rfl dX11_endsAt_21 ?_
  refine k_iload_n K dX11_endsAt_24 3 rfl ?_
  refine k_icmp_ne (tgt := 32) K dX11_endsAt_25 (by decide) (fun q => ?_) (fun q => ?_)
  · have h := if_f q h
    refine k_iconst (x := 0) K dX11_endsAt_32 (by decide) ?_
    exact ret_i hR h dX11_endsAt_33 zb_0
  · have h := if_t q h
    refine k_iconst (x := 1) K dX11_endsAt_28 (by decide) ?_
    refine k_goto (tgt := 33) K dX11_endsAt_29 (by decide) ?_
    exact ret_i hR h dX11_endsAt_33 zb_1
-- X11_allSeenIsSo (4, 107)
theorem iX11_allSeenIsSo_X11 : ∀ w ∈ wsX110, w ∈ wsX11_allSeenIsSo := fun _ h => List.mem_cons_of_mem _ (List.mem_append_left _ (List.mem_append_left _ (List.mem_append_left _ (List.mem_append_right _ h))))
theorem fX11_allSeenIsSo_69 : Cond.fieldLink RX11 69 "SlopeCoins" "seenKind" "[I" ∈ wsX11_allSeenIsSo := by decide +kernel
theorem fX11_allSeenIsSo_72 : Cond.fieldLink RX11 72 "SlopeCoins" "seenFrom" "[I" ∈ wsX11_allSeenIsSo := by decide +kernel
theorem fX11_allSeenIsSo_75 : Cond.fieldLink RX11 75 "SlopeCoins" "seenTo" "[I" ∈ wsX11_allSeenIsSo := by decide +kernel
theorem fX11_allSeenIsSo_106 : Cond.fieldLink RX11 106 "SlopeCoins" "seen" "I" ∈ wsX11_allSeenIsSo := by decide +kernel
set_option maxRecDepth 100000 in
set_option maxHeartbeats 4000000 in
theorem wX11_allSeenIsSo_2 {l : Launch} {D : va_G} {cI cZ cC cG cB : ClassId} {ad : Nat → Nat} {a : Program × Env × State × MethodId} {b : Array Value × List Frame × Method × Code × (State → Prop) × Nat} {A : Nat → Prop} (K : KS (GS l 4 107 D cI cZ cC cG cB ad a b A) cX11_allSeenIsSo RX11 wsX11_allSeenIsSo (some .boolean)) (hn : x_n (GS l 4 107 D cI cZ cC cG cB ad a b A) = 2) {res : (Int32 × St)} (hR : HRi (GS l 4 107 D cI cZ cC cG cB ad a b A) cX11_allSeenIsSo zb res) : ∀ (n : Nat) (v1 : Int32) (σ : St), mX11_allSeenIsSo_2 n v1 σ = some res → Wk (GS l 4 107 D cI cZ cC cG cB ad a b A) 2 [(0, .ref (ad 0)), (1, .int v1)] [] σ := by
  intro n
  induction n with
  | zero => intro v1 σ h; cases h
  | succ n ih =>
    intro v1 σ h
    unfold mX11_allSeenIsSo_2 at h
    refine k_iload_n K dX11_allSeenIsSo_2 1 rfl ?_
    refine k_aload_n K dX11_allSeenIsSo_3 0 rfl ?_
    refine k_get K 0 11 15 iX11_allSeenIsSo_X11 (Nat.le_of_ble_eq_true rfl) ((mS_0 cI cZ cC cG cB ad) _) rfl (by decide) fX11_allSeenIsSo_106 rfl dX11_allSeenIsSo_4 ?_
    refine k_icmp_ge (tgt := 43) K dX11_allSeenIsSo_7 (by decide) (fun q => ?_) (fun q => ?_)
    · have h := if_f q h
      refine k_iconst (x := 1) K dX11_allSeenIsSo_43 (by decide) ?_
      exact ret_i hR h dX11_allSeenIsSo_44 zb_1
    · have h := if_t q h
      refine k_aload_n K dX11_allSeenIsSo_10 0 rfl ?_
      refine k_aload_n K dX11_allSeenIsSo_11 0 rfl ?_
      refine k_get K 0 11 12 iX11_allSeenIsSo_X11 (Nat.le_of_ble_eq_true rfl) ((mS_0 cI cZ cC cG cB ad) _) rfl (by decide) fX11_allSeenIsSo_69 rfl dX11_allSeenIsSo_12 ?_
      refine k_iload_n K dX11_allSeenIsSo_15 1 rfl ?_
      obtain ⟨g1, h⟩ := gd_some h
      refine k_ild K 4 0 (Nat.le_of_ble_eq_true rfl) ((mS_4 cI cZ cC cG cB ad) _) rfl g1 dX11_allSeenIsSo_16 ?_
      refine k_aload_n K dX11_allSeenIsSo_17 0 rfl ?_
      refine k_get K 0 11 13 iX11_allSeenIsSo_X11 (Nat.le_of_ble_eq_true rfl) ((mS_0 cI cZ cC cG cB ad) _) rfl (by decide) fX11_allSeenIsSo_72 rfl dX11_allSeenIsSo_18 ?_
      refine k_iload_n K dX11_allSeenIsSo_21 1 rfl ?_
      obtain ⟨g2, h⟩ := gd_some h
      refine k_ild K 5 0 (Nat.le_of_ble_eq_true rfl) ((mS_5 cI cZ cC cG cB ad) _) rfl g2 dX11_allSeenIsSo_22 ?_
      refine k_aload_n K dX11_allSeenIsSo_23 0 rfl ?_
      refine k_get K 0 11 14 iX11_allSeenIsSo_X11 (Nat.le_of_ble_eq_true rfl) ((mS_0 cI cZ cC cG cB ad) _) rfl (by decide) fX11_allSeenIsSo_75 rfl dX11_allSeenIsSo_24 ?_
      refine k_iload_n K dX11_allSeenIsSo_27 1 rfl ?_
      obtain ⟨g3, h⟩ := gd_some h
      refine k_ild K 6 0 (Nat.le_of_ble_eq_true rfl) ((mS_6 cI cZ cC cG cB ad) _) rfl g3 dX11_allSeenIsSo_28 ?_
      obtain ⟨⟨r4, s5⟩, e6, h⟩ := bd_some h
      dsimp only at h
      refine k_callVi K 0 11 (Nat.le_of_ble_eq_true rfl) ((mS_0 cI cZ cC cG cB ad) _) rfl (ctX11_endsAt e6) (cwV 3 K.ts gX11_allSeenIsSo_X11_endsAt rfl rfl rfl hVX11_endsAt ⟨Nat.le_of_ble_eq_true rfl, Nat.le_of_ble_eq_true rfl⟩) rfl rfl (Nat.le_of_ble_eq_true rfl) dX11_allSeenIsSo_29 ?_
      refine k_if_ne (tgt := 37) K dX11_allSeenIsSo_32 (by decide) (fun q => ?_) (fun q => ?_)
      · have h := if_f q h
        have h := lt_some h
        refine k_iinc (lv' := [(1, _), (0, _)]) K dX11_allSeenIsSo_37 1 rfl (v := _ + 1) (by rfl) (by rw [hn]; decide) rfl ?_
        refine k_goto (tgt := 2) K dX11_allSeenIsSo_40 (by decide) ?_
        exact k_sub [1, 0] rfl (ih _ _ h)
      · have h := if_t q h
        refine k_iconst (x := 0) K dX11_allSeenIsSo_35 (by decide) ?_
        exact ret_i hR h dX11_allSeenIsSo_36 zb_0
set_option maxRecDepth 100000 in
set_option maxHeartbeats 4000000 in
theorem ctX11_allSeenIsSo {l : Launch} {D : va_G} {cI cZ cC cG cB : ClassId} {ad : Nat → Nat} {σ : St} {res : (Int32 × St)} (h : mX11_allSeenIsSo σ = some res) : Ci l yX11_allSeenIsSo wsX11_allSeenIsSo 4 107 D vwCl (tysS cI cZ cC cG cB) nwS (mkS cI cZ cC cG cB ad) ad 75 [.ref (ad 0)] σ res := by
  refine c_bool (cc := cX11_allSeenIsSo) (maxL := 2) (by decide) rfl (Nat.le_of_ble_eq_true rfl) fun a b hn K hR => ?_
  unfold mX11_allSeenIsSo at h
  have K : KS (GS l 4 107 D cI cZ cC cG cB ad a b (w_A ad 75)) cX11_allSeenIsSo RX11 wsX11_allSeenIsSo (some .boolean) := K
  have hn : x_n (GS l 4 107 D cI cZ cC cG cB ad a b (w_A ad 75)) = 2 := hn
  refine k_sub [0] rfl ?_
  refine k_iconst (x := 0) K dX11_allSeenIsSo_0 (by decide) ?_
  refine k_istore_n (lv' := [(1, _), (0, _)]) K dX11_allSeenIsSo_1 (by rw [hn]; decide) rfl ?_
  exact k_sub [1, 0] rfl (wX11_allSeenIsSo_2 K hn hR FU _ _ h)
-- X11_now (5, 128)
theorem iX11_now_X11 : ∀ w ∈ wsX110, w ∈ wsX11_now := fun _ h => List.mem_cons_of_mem _ (List.mem_append_left _ (List.mem_append_left _ (List.mem_append_left _ (List.mem_append_right _ h))))
theorem iX11_now_X3 : ∀ w ∈ wsX30, w ∈ wsX11_now := fun _ h => List.mem_cons_of_mem _ (List.mem_append_left _ (List.mem_append_left _ (List.mem_append_right _ h)))
theorem fX11_now_33 : Cond.fieldLink RX11 33 "SlopeCoins" "ground" "LSlopeCoins$Ground;" ∈ wsX11_now := by decide +kernel
theorem fX11_now_119 : Cond.fieldLink RX11 119 "SlopeCoins$Ground" "lie" "[I" ∈ wsX11_now := by decide +kernel
theorem fX11_now_122 : Cond.fieldLink RX11 122 "SlopeCoins$Ground" "lieWorth" "[I" ∈ wsX11_now := by decide +kernel
theorem fX11_now_125 : Cond.fieldLink RX11 125 "SlopeCoins$Ground" "in" "[I" ∈ wsX11_now := by decide +kernel
theorem fX11_now_128 : Cond.fieldLink RX11 128 "SlopeCoins$Ground" "inWorth" "[I" ∈ wsX11_now := by decide +kernel
theorem fX11_now_174 : Cond.fieldLink RX11 174 "SlopeCoins$Ground" "planks" "I" ∈ wsX11_now := by decide +kernel
set_option maxRecDepth 100000 in
set_option maxHeartbeats 4000000 in
theorem ctX11_now {l : Launch} {D : va_G} {cI cZ cC cG cB : ClassId} {ad : Nat → Nat} {v1 : Int32} {σ : St} {res : (Int32 × St)} (h : mX11_now v1 σ = some res) : Ci l yX11_now wsX11_now 5 128 D vwCl (tysS cI cZ cC cG cB) nwS (mkS cI cZ cC cG cB ad) ad 75 [.ref (ad 0), .int v1] σ res := by
  refine c_int (cc := cX11_now) (maxL := 2) (by decide) rfl (Nat.le_of_ble_eq_true rfl) fun a b hn K hR => ?_
  unfold mX11_now at h
  have K : KS (GS l 5 128 D cI cZ cC cG cB ad a b (w_A ad 75)) cX11_now RX11 wsX11_now (some .int) := K
  have hn : x_n (GS l 5 128 D cI cZ cC cG cB ad a b (w_A ad 75)) = 2 := hn
  refine k_sub [0, 1] rfl ?_
  refine k_iload_n K dX11_now_0 1 rfl ?_
  refine k_case (y := 0) (fun q0 => ?_) (fun q0 => ?_)
  · have h := if_t q0 h
    refine k_tableIn (off := 43) (tgt := 44) K dX11_now_1 (by rw [q0]; decide) (by rw [q0]; decide) (by rw [q0]; rfl) (by decide) ?_
    refine k_aload_n K dX11_now_44 0 rfl ?_
    refine k_aload_n K dX11_now_45 0 rfl ?_
    refine k_get K 0 11 5 iX11_now_X11 (Nat.le_of_ble_eq_true rfl) ((mS_0 cI cZ cC cG cB ad) _) rfl (by decide) fX11_now_33 rfl dX11_now_46 ?_
    refine k_get K 26 3 4 iX11_now_X3 (Nat.le_of_ble_eq_true rfl) ((mS_26 cI cZ cC cG cB ad) _) rfl (by decide) fX11_now_119 rfl dX11_now_49 ?_
    obtain ⟨⟨r1, s2⟩, e3, h⟩ := bd_some h
    dsimp only at h
    refine k_callVi K 0 11 (Nat.le_of_ble_eq_true rfl) ((mS_0 cI cZ cC cG cB ad) _) rfl (ctX11_sumOf (Nat.le_of_ble_eq_true rfl) (mS_29 cI cZ cC cG cB ad) e3) (cwV 1 K.ts gX11_now_X11_sumOf rfl rfl rfl hVX11_sumOf ⟨Nat.le_of_ble_eq_true rfl, Nat.le_of_ble_eq_true rfl⟩) rfl rfl (Nat.le_of_ble_eq_true rfl) dX11_now_52 ?_
    refine k_aload_n K dX11_now_55 0 rfl ?_
    refine k_aload_n K dX11_now_56 0 rfl ?_
    refine k_get K 0 11 5 iX11_now_X11 (Nat.le_of_ble_eq_true rfl) ((mS_0 cI cZ cC cG cB ad) _) rfl (by decide) fX11_now_33 rfl dX11_now_57 ?_
    refine k_get K 26 3 6 iX11_now_X3 (Nat.le_of_ble_eq_true rfl) ((mS_26 cI cZ cC cG cB ad) _) rfl (by decide) fX11_now_125 rfl dX11_now_60 ?_
    obtain ⟨⟨r4, s5⟩, e6, h⟩ := bd_some h
    dsimp only at h
    refine k_callVi K 0 11 (Nat.le_of_ble_eq_true rfl) ((mS_0 cI cZ cC cG cB ad) _) rfl (ctX11_sumOf (Nat.le_of_ble_eq_true rfl) (mS_31 cI cZ cC cG cB ad) e6) (cwV 1 K.ts gX11_now_X11_sumOf rfl rfl rfl hVX11_sumOf ⟨Nat.le_of_ble_eq_true rfl, Nat.le_of_ble_eq_true rfl⟩) rfl rfl (Nat.le_of_ble_eq_true rfl) dX11_now_63 ?_
    refine k_iadd K dX11_now_66 ?_
    exact ret_i hR h dX11_now_67 trivial
  · have h := if_f q0 h
    refine k_case (y := 1) (fun q1 => ?_) (fun q1 => ?_)
    · have h := if_t q1 h
      refine k_tableIn (off := 67) (tgt := 68) K dX11_now_1 (by rw [q1]; decide) (by rw [q1]; decide) (by rw [q1]; rfl) (by decide) ?_
      refine k_aload_n K dX11_now_68 0 rfl ?_
      refine k_aload_n K dX11_now_69 0 rfl ?_
      refine k_get K 0 11 5 iX11_now_X11 (Nat.le_of_ble_eq_true rfl) ((mS_0 cI cZ cC cG cB ad) _) rfl (by decide) fX11_now_33 rfl dX11_now_70 ?_
      refine k_get K 26 3 4 iX11_now_X3 (Nat.le_of_ble_eq_true rfl) ((mS_26 cI cZ cC cG cB ad) _) rfl (by decide) fX11_now_119 rfl dX11_now_73 ?_
      obtain ⟨⟨r7, s8⟩, e9, h⟩ := bd_some h
      dsimp only at h
      refine k_callVi K 0 11 (Nat.le_of_ble_eq_true rfl) ((mS_0 cI cZ cC cG cB ad) _) rfl (ctX11_sumOf (Nat.le_of_ble_eq_true rfl) (mS_29 cI cZ cC cG cB ad) e9) (cwV 1 K.ts gX11_now_X11_sumOf rfl rfl rfl hVX11_sumOf ⟨Nat.le_of_ble_eq_true rfl, Nat.le_of_ble_eq_true rfl⟩) rfl rfl (Nat.le_of_ble_eq_true rfl) dX11_now_76 ?_
      exact ret_i hR h dX11_now_79 trivial
    · have h := if_f q1 h
      refine k_case (y := 2) (fun q2 => ?_) (fun q2 => ?_)
      · have h := if_t q2 h
        refine k_tableIn (off := 79) (tgt := 80) K dX11_now_1 (by rw [q2]; decide) (by rw [q2]; decide) (by rw [q2]; rfl) (by decide) ?_
        refine k_aload_n K dX11_now_80 0 rfl ?_
        refine k_aload_n K dX11_now_81 0 rfl ?_
        refine k_get K 0 11 5 iX11_now_X11 (Nat.le_of_ble_eq_true rfl) ((mS_0 cI cZ cC cG cB ad) _) rfl (by decide) fX11_now_33 rfl dX11_now_82 ?_
        refine k_get K 26 3 5 iX11_now_X3 (Nat.le_of_ble_eq_true rfl) ((mS_26 cI cZ cC cG cB ad) _) rfl (by decide) fX11_now_122 rfl dX11_now_85 ?_
        obtain ⟨⟨r10, s11⟩, e12, h⟩ := bd_some h
        dsimp only at h
        refine k_callVi K 0 11 (Nat.le_of_ble_eq_true rfl) ((mS_0 cI cZ cC cG cB ad) _) rfl (ctX11_sumOf (Nat.le_of_ble_eq_true rfl) (mS_30 cI cZ cC cG cB ad) e12) (cwV 1 K.ts gX11_now_X11_sumOf rfl rfl rfl hVX11_sumOf ⟨Nat.le_of_ble_eq_true rfl, Nat.le_of_ble_eq_true rfl⟩) rfl rfl (Nat.le_of_ble_eq_true rfl) dX11_now_88 ?_
        exact ret_i hR h dX11_now_91 trivial
      · have h := if_f q2 h
        refine k_case (y := 3) (fun q3 => ?_) (fun q3 => ?_)
        · have h := if_t q3 h
          refine k_tableIn (off := 91) (tgt := 92) K dX11_now_1 (by rw [q3]; decide) (by rw [q3]; decide) (by rw [q3]; rfl) (by decide) ?_
          refine k_aload_n K dX11_now_92 0 rfl ?_
          refine k_aload_n K dX11_now_93 0 rfl ?_
          refine k_get K 0 11 5 iX11_now_X11 (Nat.le_of_ble_eq_true rfl) ((mS_0 cI cZ cC cG cB ad) _) rfl (by decide) fX11_now_33 rfl dX11_now_94 ?_
          refine k_get K 26 3 6 iX11_now_X3 (Nat.le_of_ble_eq_true rfl) ((mS_26 cI cZ cC cG cB ad) _) rfl (by decide) fX11_now_125 rfl dX11_now_97 ?_
          obtain ⟨⟨r13, s14⟩, e15, h⟩ := bd_some h
          dsimp only at h
          refine k_callVi K 0 11 (Nat.le_of_ble_eq_true rfl) ((mS_0 cI cZ cC cG cB ad) _) rfl (ctX11_sumOf (Nat.le_of_ble_eq_true rfl) (mS_31 cI cZ cC cG cB ad) e15) (cwV 1 K.ts gX11_now_X11_sumOf rfl rfl rfl hVX11_sumOf ⟨Nat.le_of_ble_eq_true rfl, Nat.le_of_ble_eq_true rfl⟩) rfl rfl (Nat.le_of_ble_eq_true rfl) dX11_now_100 ?_
          exact ret_i hR h dX11_now_103 trivial
        · have h := if_f q3 h
          refine k_case (y := 4) (fun q4 => ?_) (fun q4 => ?_)
          · have h := if_t q4 h
            refine k_tableIn (off := 103) (tgt := 104) K dX11_now_1 (by rw [q4]; decide) (by rw [q4]; decide) (by rw [q4]; rfl) (by decide) ?_
            refine k_aload_n K dX11_now_104 0 rfl ?_
            refine k_aload_n K dX11_now_105 0 rfl ?_
            refine k_get K 0 11 5 iX11_now_X11 (Nat.le_of_ble_eq_true rfl) ((mS_0 cI cZ cC cG cB ad) _) rfl (by decide) fX11_now_33 rfl dX11_now_106 ?_
            refine k_get K 26 3 7 iX11_now_X3 (Nat.le_of_ble_eq_true rfl) ((mS_26 cI cZ cC cG cB ad) _) rfl (by decide) fX11_now_128 rfl dX11_now_109 ?_
            obtain ⟨⟨r16, s17⟩, e18, h⟩ := bd_some h
            dsimp only at h
            refine k_callVi K 0 11 (Nat.le_of_ble_eq_true rfl) ((mS_0 cI cZ cC cG cB ad) _) rfl (ctX11_sumOf (Nat.le_of_ble_eq_true rfl) (mS_32 cI cZ cC cG cB ad) e18) (cwV 1 K.ts gX11_now_X11_sumOf rfl rfl rfl hVX11_sumOf ⟨Nat.le_of_ble_eq_true rfl, Nat.le_of_ble_eq_true rfl⟩) rfl rfl (Nat.le_of_ble_eq_true rfl) dX11_now_112 ?_
            exact ret_i hR h dX11_now_115 trivial
          · have h := if_f q4 h
            refine k_case (y := 5) (fun q5 => ?_) (fun q5 => ?_)
            · have h := if_t q5 h
              refine k_tableIn (off := 115) (tgt := 116) K dX11_now_1 (by rw [q5]; decide) (by rw [q5]; decide) (by rw [q5]; rfl) (by decide) ?_
              refine k_aload_n K dX11_now_116 0 rfl ?_
              refine k_get K 0 11 5 iX11_now_X11 (Nat.le_of_ble_eq_true rfl) ((mS_0 cI cZ cC cG cB ad) _) rfl (by decide) fX11_now_33 rfl dX11_now_117 ?_
              refine k_get K 26 3 0 iX11_now_X3 (Nat.le_of_ble_eq_true rfl) ((mS_26 cI cZ cC cG cB ad) _) rfl (by decide) fX11_now_174 rfl dX11_now_120 ?_
              exact ret_i hR h dX11_now_123 trivial
            · have h := if_f q5 h
              refine k_case (y := 6) (fun q6 => ?_) (fun q6 => ?_)
              · have h := if_t q6 h
                refine k_tableIn (off := 123) (tgt := 124) K dX11_now_1 (by rw [q6]; decide) (by rw [q6]; decide) (by rw [q6]; rfl) (by decide) ?_
                refine k_aload_n K dX11_now_124 0 rfl ?_
                obtain ⟨⟨r19, s20⟩, e21, h⟩ := bd_some h
                dsimp only at h
                refine k_callVi K 0 11 (Nat.le_of_ble_eq_true rfl) ((mS_0 cI cZ cC cG cB ad) _) rfl (ctX11_allSeenIsSo e21) (cwV 0 K.ts gX11_now_X11_allSeenIsSo rfl rfl rfl hVX11_allSeenIsSo ⟨Nat.le_of_ble_eq_true rfl, Nat.le_of_ble_eq_true rfl⟩) rfl rfl (Nat.le_of_ble_eq_true rfl) dX11_now_125 ?_
                refine k_if_eq (tgt := 135) K dX11_now_128 (by decide) (fun q => ?_) (fun q => ?_)
                · have h := if_t q h
                  refine k_iconst (x := 0) K dX11_now_135 (by decide) ?_
                  exact ret_i hR h dX11_now_136 trivial
                · have h := if_f q h
                  refine k_iconst (x := 1) K dX11_now_131 (by decide) ?_
                  refine k_goto (tgt := 136) K dX11_now_132 (by decide) ?_
                  exact ret_i hR h dX11_now_136 trivial
              · have h := if_f q6 h
                refine k_tableOut (tgt := 137) K dX11_now_1 (sw_out7 q0 q1 q2 q3 q4 q5 q6) (by decide) ?_
                refine k_iconst (x := (-1)) K dX11_now_137 (by decide) ?_
                exact ret_i hR h dX11_now_138 trivial
-- X11_end (3, 84)
theorem iX11_end_X11 : ∀ w ∈ wsX110, w ∈ wsX11_end := fun _ h => List.mem_cons_of_mem _ (List.mem_append_left _ (List.mem_append_left _ (List.mem_append_left _ (List.mem_append_right _ h))))
theorem iX11_end_X8 : ∀ w ∈ wsX80, w ∈ wsX11_end := fun _ h => List.mem_cons_of_mem _ (List.mem_append_left _ (List.mem_append_left _ (List.mem_append_right _ h)))
theorem fX11_end_16 : Cond.fieldLink RX11 16 "SlopeCoins" "city" "LSlopeCoins$City;" ∈ wsX11_end := by decide +kernel
theorem fX11_end_33 : Cond.fieldLink RX11 33 "SlopeCoins" "ground" "LSlopeCoins$Ground;" ∈ wsX11_end := by decide +kernel
theorem fX11_end_48 : Cond.fieldLink RX11 48 "SlopeCoins" "roll" "LSlopeCoins$Roll;" ∈ wsX11_end := by decide +kernel
theorem fX11_end_204 : Cond.fieldLink RX11 204 "SlopeCoins$Roll" "steps" "I" ∈ wsX11_end := by decide +kernel
theorem fX11_end_207 : Cond.fieldLink RX11 207 "SlopeCoins$Roll" "past" "I" ∈ wsX11_end := by decide +kernel
set_option maxRecDepth 100000 in
set_option maxHeartbeats 4000000 in
theorem ctX11_end {l : Launch} {D : va_G} {cI cZ cC cG cB : ClassId} {ad : Nat → Nat} {v1 : Int32} {v2 : Int32} {v3 : Int32} {v4 : Int32} {σ : St} {res : (Int32 × St)} (h : mX11_end v1 v2 v3 v4 σ = some res) : Ci l yX11_end wsX11_end 3 84 D vwCl (tysS cI cZ cC cG cB) nwS (mkS cI cZ cC cG cB ad) ad 75 [.ref (ad 0), .int v1, .int v2, .int v3, .int v4] σ res := by
  refine c_int (cc := cX11_end) (maxL := 6) (by decide) rfl (Nat.le_of_ble_eq_true rfl) fun a b hn K hR => ?_
  unfold mX11_end at h
  have K : KS (GS l 3 84 D cI cZ cC cG cB ad a b (w_A ad 75)) cX11_end RX11 wsX11_end (some .int) := K
  have hn : x_n (GS l 3 84 D cI cZ cC cG cB ad a b (w_A ad 75)) = 6 := hn
  refine k_sub [0, 1, 2, 3, 4] rfl ?_
  refine k_aload_n K dX11_end_0 0 rfl ?_
  refine k_get K 0 11 2 iX11_end_X11 (Nat.le_of_ble_eq_true rfl) ((mS_0 cI cZ cC cG cB ad) _) rfl (by decide) fX11_end_16 rfl dX11_end_1 ?_
  refine k_iload_n K dX11_end_4 2 rfl ?_
  refine k_iload_n K dX11_end_5 3 rfl ?_
  obtain ⟨⟨r1, s2⟩, e3, h⟩ := bd_some h
  dsimp only at h
  refine k_callVi K 10 2 (Nat.le_of_ble_eq_true rfl) ((mS_10 cI cZ cC cG cB ad) _) rfl (ctX2_cellAt (by decide) e3) (cwV 2 K.ts gX11_end_X2_cellAt rfl rfl rfl hVX2_cellAt ⟨Nat.le_of_ble_eq_true rfl, Nat.le_of_ble_eq_true rfl⟩) rfl rfl (Nat.le_of_ble_eq_true rfl) dX11_end_6 ?_
  refine k_istore (lv' := [(5, _), (0, _), (1, _), (2, _), (3, _), (4, _)]) K dX11_end_9 (by rw [hn]; decide) rfl ?_
  refine k_aload_n K dX11_end_11 1 rfl ?_
  refine k_iload_n K dX11_end_12 2 rfl ?_
  obtain ⟨⟨r4, s5⟩, e6, h⟩ := bd_some h
  dsimp only at h
  refine k_callVi K 0 11 (Nat.le_of_ble_eq_true rfl) ((mS_0 cI cZ cC cG cB ad) _) rfl (ctX11_isKind e6) (cwV 1 K.ts gX11_end_X11_isKind rfl rfl rfl hVX11_isKind ⟨Nat.le_of_ble_eq_true rfl, Nat.le_of_ble_eq_true rfl⟩) rfl rfl (Nat.le_of_ble_eq_true rfl) dX11_end_13 ?_
  refine k_if_eq (tgt := 36) K dX11_end_16 (by decide) (fun q => ?_) (fun q => ?_)
  · have h := if_t q h
    refine k_iconst (x := (-1)) K dX11_end_36 (by decide) ?_
    exact ret_i hR h dX11_end_37 trivial
  · have h := if_f q h
    refine k_iload K dX11_end_19 0 rfl ?_
    refine k_iconst (x := (-1)) K dX11_end_21 (by decide) ?_
    refine k_icmp_eq (tgt := 36) K dX11_end_22 (by decide) (fun q => ?_) (fun q => ?_)
    · have h := if_t q h
      refine k_iconst (x := (-1)) K dX11_end_36 (by decide) ?_
      exact ret_i hR h dX11_end_37 trivial
    · have h := if_f q h
      refine k_iload K dX11_end_25 5 rfl ?_
      refine k_if_lt (tgt := 36) K dX11_end_27 (by decide) (fun q => ?_) (fun q => ?_)
      · have h := if_t q h
        refine k_iconst (x := (-1)) K dX11_end_36 (by decide) ?_
        exact ret_i hR h dX11_end_37 trivial
      · have h := if_f q h
        refine k_iload K dX11_end_30 5 rfl ?_
        refine k_iconst (x := 2) K dX11_end_32 (by decide) ?_
        refine k_icmp_le (tgt := 38) K dX11_end_33 (by decide) (fun q => ?_) (fun q => ?_)
        · have h := if_f q h
          refine k_aload_n K dX11_end_38 1 rfl ?_
          refine k_get K 0 11 8 iX11_end_X11 (Nat.le_of_ble_eq_true rfl) ((mS_0 cI cZ cC cG cB ad) _) rfl (by decide) fX11_end_48 rfl dX11_end_39 ?_
          refine k_aload_n K dX11_end_42 1 rfl ?_
          refine k_get K 0 11 2 iX11_end_X11 (Nat.le_of_ble_eq_true rfl) ((mS_0 cI cZ cC cG cB ad) _) rfl (by decide) fX11_end_16 rfl dX11_end_43 ?_
          refine k_aload_n K dX11_end_46 1 rfl ?_
          refine k_get K 0 11 5 iX11_end_X11 (Nat.le_of_ble_eq_true rfl) ((mS_0 cI cZ cC cG cB ad) _) rfl (by decide) fX11_end_33 rfl dX11_end_47 ?_
          refine k_iload_n K dX11_end_50 2 rfl ?_
          refine k_iload K dX11_end_51 0 rfl ?_
          obtain ⟨⟨r7, s8⟩, e9, h⟩ := bd_some h
          dsimp only at h
          refine k_callVv K 59 8 (Nat.le_of_ble_eq_true rfl) ((mS_59 cI cZ cC cG cB ad) _) rfl (ctX8_goAs (by decide) e9) (cwV 4 K.ts gX11_end_X8_goAs rfl rfl rfl hVX8_goAs ⟨Nat.le_of_ble_eq_true rfl, Nat.le_of_ble_eq_true rfl⟩) rfl rfl (Nat.le_of_ble_eq_true rfl) dX11_end_53 ?_
          refine k_iload K dX11_end_56 5 rfl ?_
          refine k_if_ne (tgt := 66) K dX11_end_58 (by decide) (fun q => ?_) (fun q => ?_)
          · have h := if_f q h
            refine k_iload K dX11_end_66 5 rfl ?_
            refine k_iconst (x := 1) K dX11_end_68 (by decide) ?_
            refine k_icmp_ne (tgt := 82) K dX11_end_69 (by decide) (fun q => ?_) (fun q => ?_)
            · have h := if_f q h
              refine k_aload_n K dX11_end_82 1 rfl ?_
              refine k_get K 0 11 8 iX11_end_X11 (Nat.le_of_ble_eq_true rfl) ((mS_0 cI cZ cC cG cB ad) _) rfl (by decide) fX11_end_48 rfl dX11_end_83 ?_
              refine k_get K 59 8 3 iX11_end_X8 (Nat.le_of_ble_eq_true rfl) ((mS_59 cI cZ cC cG cB ad) _) rfl (by decide) fX11_end_207 rfl dX11_end_86 ?_
              exact ret_i hR h dX11_end_89 trivial
            · have h := if_t q h
              refine k_aload_n K dX11_end_72 1 rfl ?_
              refine k_get K 0 11 8 iX11_end_X11 (Nat.le_of_ble_eq_true rfl) ((mS_0 cI cZ cC cG cB ad) _) rfl (by decide) fX11_end_48 rfl dX11_end_73 ?_
              refine k_get K 59 8 2 iX11_end_X8 (Nat.le_of_ble_eq_true rfl) ((mS_59 cI cZ cC cG cB ad) _) rfl (by decide) fX11_end_204 rfl dX11_end_76 ?_
              refine k_goto (tgt := 89) K dX11_end_79 (by decide) ?_
              exact ret_i hR h dX11_end_89 trivial
          · have h := if_t q h
            refine k_aload_n K dX11_end_61 1 rfl ?_
            obtain ⟨⟨r10, s11⟩, e12, h⟩ := bd_some h
            dsimp only at h
            refine k_callVi K 0 11 (Nat.le_of_ble_eq_true rfl) ((mS_0 cI cZ cC cG cB ad) _) rfl (ctX11_endCode e12) (cwV 0 K.ts gX11_end_X11_endCode rfl rfl rfl hVX11_endCode ⟨Nat.le_of_ble_eq_true rfl, Nat.le_of_ble_eq_true rfl⟩) rfl rfl (Nat.le_of_ble_eq_true rfl) dX11_end_62 ?_
            exact ret_i hR h dX11_end_65 trivial
        · have h := if_t q h
          refine k_iconst (x := (-1)) K dX11_end_36 (by decide) ?_
          exact ret_i hR h dX11_end_37 trivial

/-! walks, by program -/
-- X12_isEdge (0, 0)
theorem iX12_isEdge_X12 : ∀ w ∈ wsX120, w ∈ wsX12_isEdge := fun _ h => List.mem_cons_of_mem _ (List.mem_append_right _ h)
theorem fX12_isEdge_143 : Cond.fieldLink RX12 143 "SlopeCoinsModel" "wide" "I" ∈ wsX12_isEdge := by decide +kernel
theorem fX12_isEdge_146 : Cond.fieldLink RX12 146 "SlopeCoinsModel" "high" "I" ∈ wsX12_isEdge := by decide +kernel
set_option maxRecDepth 100000 in
set_option maxHeartbeats 4000000 in
theorem ctX12_isEdge {l : Launch} {D : va_G} {cI cZ : ClassId} {ad : Nat → Nat} {v1 : Int32} {v2 : Int32} {σ : St} {res : (Int32 × St)} (h : mX12_isEdge v1 v2 σ = some res) : Ci l yX12_isEdge wsX12_isEdge 0 0 D vwCl (tysM cI cZ) nwM (mkM cI cZ ad) ad 17 [.ref (ad 0), .int v1, .int v2] σ res := by
  refine c_bool (cc := cX12_isEdge) (maxL := 5) (by decide) rfl (Nat.le_of_ble_eq_true rfl) fun a b hn K hR => ?_
  unfold mX12_isEdge at h
  have K : KS (GM l 0 0 D cI cZ ad a b (w_A ad 17)) cX12_isEdge RX12 wsX12_isEdge (some .boolean) := K
  have hn : x_n (GM l 0 0 D cI cZ ad a b (w_A ad 17)) = 5 := hn
  refine k_sub [0, 1, 2] rfl ?_
  refine k_iload_n K dX12_isEdge_0 1 rfl ?_
  refine k_aload_n K dX12_isEdge_1 0 rfl ?_
  refine k_get K 0 12 4 iX12_isEdge_X12 (Nat.le_of_ble_eq_true rfl) ((mM_0 cI cZ ad) _) rfl (by decide) fX12_isEdge_143 rfl dX12_isEdge_2 ?_
  obtain ⟨g1, h⟩ := gd_some h
  refine k_irem K dX12_isEdge_5 g1 ?_
  have h := lt_some h
  refine k_istore_n (lv' := [(3, _), (0, _), (1, _), (2, _)]) K dX12_isEdge_6 (by rw [hn]; decide) rfl ?_
  refine k_iload_n K dX12_isEdge_7 2 rfl ?_
  refine k_aload_n K dX12_isEdge_8 1 rfl ?_
  refine k_get K 0 12 4 iX12_isEdge_X12 (Nat.le_of_ble_eq_true rfl) ((mM_0 cI cZ ad) _) rfl (by decide) fX12_isEdge_143 rfl dX12_isEdge_9 ?_
  obtain ⟨g3, h⟩ := gd_some h
  refine k_idiv K dX12_isEdge_12 g3 ?_
  have h := lt_some h
  refine k_istore (lv' := [(4, _), (3, _), (0, _), (1, _), (2, _)]) K dX12_isEdge_13 (by rw [hn]; decide) rfl ?_
  refine k_iload_n K dX12_isEdge_15 4 rfl ?_
  refine k_if_ne (tgt := 32) K dX12_isEdge_16 (by decide) (fun q => ?_) (fun q => ?_)
  · have h := if_f q h
    refine k_iload_n K dX12_isEdge_32 4 rfl ?_
    refine k_iconst (x := 1) K dX12_isEdge_33 (by decide) ?_
    refine k_icmp_ne (tgt := 55) K dX12_isEdge_34 (by decide) (fun q => ?_) (fun q => ?_)
    · have h := if_f q h
      refine k_iload_n K dX12_isEdge_55 4 rfl ?_
      refine k_iconst (x := 2) K dX12_isEdge_56 (by decide) ?_
      refine k_icmp_ne (tgt := 79) K dX12_isEdge_57 (by decide) (fun q => ?_) (fun q => ?_)
      · have h := if_f q h
        refine k_iload_n K dX12_isEdge_79 1 rfl ?_
        refine k_if_ne (tgt := 87) K dX12_isEdge_80 (by decide) (fun q => ?_) (fun q => ?_)
        · have h := if_f q h
          refine k_iconst (x := 0) K dX12_isEdge_87 (by decide) ?_
          exact ret_i hR h dX12_isEdge_88 zb_0
        · have h := if_t q h
          refine k_iconst (x := 1) K dX12_isEdge_83 (by decide) ?_
          refine k_goto (tgt := 88) K dX12_isEdge_84 (by decide) ?_
          exact ret_i hR h dX12_isEdge_88 zb_1
      · have h := if_t q h
        refine k_iload K dX12_isEdge_60 0 rfl ?_
        refine k_aload_n K dX12_isEdge_62 2 rfl ?_
        refine k_get K 0 12 5 iX12_isEdge_X12 (Nat.le_of_ble_eq_true rfl) ((mM_0 cI cZ ad) _) rfl (by decide) fX12_isEdge_146 rfl dX12_isEdge_63 ?_
        refine k_iconst (x := 1) K dX12_isEdge_66 (by decide) ?_
        refine k_isub K dX12_isEdge_67 ?_
        refine k_icmp_ne (tgt := 75) K dX12_isEdge_68 (by decide) (fun q => ?_) (fun q => ?_)
        · have h := if_f q h
          refine k_iconst (x := 0) K dX12_isEdge_75 (by decide) ?_
          refine k_goto (tgt := 88) K dX12_isEdge_76 (by decide) ?_
          exact ret_i hR h dX12_isEdge_88 zb_0
        · have h := if_t q h
          refine k_iconst (x := 1) K dX12_isEdge_71 (by decide) ?_
          refine k_goto (tgt := 88) K dX12_isEdge_72 (by decide) ?_
          exact ret_i hR h dX12_isEdge_88 zb_1
    · have h := if_t q h
      refine k_iload_n K dX12_isEdge_37 1 rfl ?_
      refine k_aload_n K dX12_isEdge_38 2 rfl ?_
      refine k_get K 0 12 4 iX12_isEdge_X12 (Nat.le_of_ble_eq_true rfl) ((mM_0 cI cZ ad) _) rfl (by decide) fX12_isEdge_143 rfl dX12_isEdge_39 ?_
      refine k_iconst (x := 1) K dX12_isEdge_42 (by decide) ?_
      refine k_isub K dX12_isEdge_43 ?_
      refine k_icmp_ne (tgt := 51) K dX12_isEdge_44 (by decide) (fun q => ?_) (fun q => ?_)
      · have h := if_f q h
        refine k_iconst (x := 0) K dX12_isEdge_51 (by decide) ?_
        refine k_goto (tgt := 88) K dX12_isEdge_52 (by decide) ?_
        exact ret_i hR h dX12_isEdge_88 zb_0
      · have h := if_t q h
        refine k_iconst (x := 1) K dX12_isEdge_47 (by decide) ?_
        refine k_goto (tgt := 88) K dX12_isEdge_48 (by decide) ?_
        exact ret_i hR h dX12_isEdge_88 zb_1
  · have h := if_t q h
    refine k_iload K dX12_isEdge_19 0 rfl ?_
    refine k_if_ne (tgt := 28) K dX12_isEdge_21 (by decide) (fun q => ?_) (fun q => ?_)
    · have h := if_f q h
      refine k_iconst (x := 0) K dX12_isEdge_28 (by decide) ?_
      refine k_goto (tgt := 88) K dX12_isEdge_29 (by decide) ?_
      exact ret_i hR h dX12_isEdge_88 zb_0
    · have h := if_t q h
      refine k_iconst (x := 1) K dX12_isEdge_24 (by decide) ?_
      refine k_goto (tgt := 88) K dX12_isEdge_25 (by decide) ?_
      exact ret_i hR h dX12_isEdge_88 zb_1
-- X12_beside (0, 0)
theorem iX12_beside_X12 : ∀ w ∈ wsX120, w ∈ wsX12_beside := fun _ h => List.mem_cons_of_mem _ (List.mem_append_right _ h)
theorem fX12_beside_143 : Cond.fieldLink RX12 143 "SlopeCoinsModel" "wide" "I" ∈ wsX12_beside := by decide +kernel
set_option maxRecDepth 100000 in
set_option maxHeartbeats 4000000 in
theorem ctX12_beside {l : Launch} {D : va_G} {cI cZ : ClassId} {ad : Nat → Nat} {v1 : Int32} {v2 : Int32} {σ : St} {res : (Int32 × St)} (h : mX12_beside v1 v2 σ = some res) : Ci l yX12_beside wsX12_beside 0 0 D vwCl (tysM cI cZ) nwM (mkM cI cZ ad) ad 17 [.ref (ad 0), .int v1, .int v2] σ res := by
  refine c_int (cc := cX12_beside) (maxL := 3) (by decide) rfl (Nat.le_of_ble_eq_true rfl) fun a b hn K hR => ?_
  unfold mX12_beside at h
  have K : KS (GM l 0 0 D cI cZ ad a b (w_A ad 17)) cX12_beside RX12 wsX12_beside (some .int) := K
  have hn : x_n (GM l 0 0 D cI cZ ad a b (w_A ad 17)) = 3 := hn
  refine k_sub [0, 1, 2] rfl ?_
  refine k_iload_n K dX12_beside_0 2 rfl ?_
  refine k_if_ne (tgt := 13) K dX12_beside_1 (by decide) (fun q => ?_) (fun q => ?_)
  · have h := if_f q h
    refine k_iload_n K dX12_beside_13 2 rfl ?_
    refine k_iconst (x := 1) K dX12_beside_14 (by decide) ?_
    refine k_icmp_ne (tgt := 24) K dX12_beside_15 (by decide) (fun q => ?_) (fun q => ?_)
    · have h := if_f q h
      refine k_iload_n K dX12_beside_24 2 rfl ?_
      refine k_iconst (x := 2) K dX12_beside_25 (by decide) ?_
      refine k_icmp_ne (tgt := 38) K dX12_beside_26 (by decide) (fun q => ?_) (fun q => ?_)
      · have h := if_f q h
        refine k_iload_n K dX12_beside_38 1 rfl ?_
        refine k_iconst (x := 1) K dX12_beside_39 (by decide) ?_
        refine k_isub K dX12_beside_40 ?_
        exact ret_i hR h dX12_beside_41 trivial
      · have h := if_t q h
        refine k_iload_n K dX12_beside_29 1 rfl ?_
        refine k_aload_n K dX12_beside_30 0 rfl ?_
        refine k_get K 0 12 4 iX12_beside_X12 (Nat.le_of_ble_eq_true rfl) ((mM_0 cI cZ ad) _) rfl (by decide) fX12_beside_143 rfl dX12_beside_31 ?_
        refine k_iadd K dX12_beside_34 ?_
        refine k_goto (tgt := 41) K dX12_beside_35 (by decide) ?_
        exact ret_i hR h dX12_beside_41 trivial
    · have h := if_t q h
      refine k_iload_n K dX12_beside_18 1 rfl ?_
      refine k_iconst (x := 1) K dX12_beside_19 (by decide) ?_
      refine k_iadd K dX12_beside_20 ?_
      refine k_goto (tgt := 41) K dX12_beside_21 (by decide) ?_
      exact ret_i hR h dX12_beside_41 trivial
  · have h := if_t q h
    refine k_iload_n K dX12_beside_4 1 rfl ?_
    refine k_aload_n K dX12_beside_5 0 rfl ?_
    refine k_get K 0 12 4 iX12_beside_X12 (Nat.le_of_ble_eq_true rfl) ((mM_0 cI cZ ad) _) rfl (by decide) fX12_beside_143 rfl dX12_beside_6 ?_
    refine k_isub K dX12_beside_9 ?_
    refine k_goto (tgt := 41) K dX12_beside_10 (by decide) ?_
    exact ret_i hR h dX12_beside_41 trivial
-- X12_sideOf (0, 0)
theorem iX12_sideOf_X12 : ∀ w ∈ wsX120, w ∈ wsX12_sideOf := fun _ h => List.mem_cons_of_mem _ (List.mem_append_right _ h)
theorem fX12_sideOf_143 : Cond.fieldLink RX12 143 "SlopeCoinsModel" "wide" "I" ∈ wsX12_sideOf := by decide +kernel
set_option maxRecDepth 100000 in
set_option maxHeartbeats 4000000 in
theorem ctX12_sideOf {l : Launch} {D : va_G} {cI cZ : ClassId} {ad : Nat → Nat} {v1 : Int32} {v2 : Int32} {σ : St} {res : (Int32 × St)} (h : mX12_sideOf v1 v2 σ = some res) : Ci l yX12_sideOf wsX12_sideOf 0 0 D vwCl (tysM cI cZ) nwM (mkM cI cZ ad) ad 17 [.ref (ad 0), .int v1, .int v2] σ res := by
  refine c_int (cc := cX12_sideOf) (maxL := 3) (by decide) rfl (Nat.le_of_ble_eq_true rfl) fun a b hn K hR => ?_
  unfold mX12_sideOf at h
  have K : KS (GM l 0 0 D cI cZ ad a b (w_A ad 17)) cX12_sideOf RX12 wsX12_sideOf (some .int) := K
  have hn : x_n (GM l 0 0 D cI cZ ad a b (w_A ad 17)) = 3 := hn
  refine k_sub [0, 1, 2] rfl ?_
  refine k_iload_n K dX12_sideOf_0 2 rfl ?_
  refine k_iconst (x := 1) K dX12_sideOf_1 (by decide) ?_
  refine k_icmp_ne (tgt := 11) K dX12_sideOf_2 (by decide) (fun q => ?_) (fun q => ?_)
  · have h := if_f q h
    refine k_iload_n K dX12_sideOf_11 2 rfl ?_
    refine k_iconst (x := 2) K dX12_sideOf_12 (by decide) ?_
    refine k_icmp_ne (tgt := 24) K dX12_sideOf_13 (by decide) (fun q => ?_) (fun q => ?_)
    · have h := if_f q h
      refine k_iload_n K dX12_sideOf_24 2 rfl ?_
      refine k_iconst (x := 3) K dX12_sideOf_25 (by decide) ?_
      refine k_icmp_ne (tgt := 37) K dX12_sideOf_26 (by decide) (fun q => ?_) (fun q => ?_)
      · have h := if_f q h
        refine k_iconst (x := 2) K dX12_sideOf_37 (by decide) ?_
        refine k_iload_n K dX12_sideOf_38 1 rfl ?_
        refine k_aload_n K dX12_sideOf_39 0 rfl ?_
        refine k_get K 0 12 4 iX12_sideOf_X12 (Nat.le_of_ble_eq_true rfl) ((mM_0 cI cZ ad) _) rfl (by decide) fX12_sideOf_143 rfl dX12_sideOf_40 ?_
        refine k_isub K dX12_sideOf_43 ?_
        refine k_imul K dX12_sideOf_44 ?_
        refine k_iconst (x := 1) K dX12_sideOf_45 (by decide) ?_
        refine k_iadd K dX12_sideOf_46 ?_
        exact ret_i hR h dX12_sideOf_47 trivial
      · have h := if_t q h
        refine k_iconst (x := 2) K dX12_sideOf_29 (by decide) ?_
        refine k_iload_n K dX12_sideOf_30 1 rfl ?_
        refine k_iconst (x := 1) K dX12_sideOf_31 (by decide) ?_
        refine k_isub K dX12_sideOf_32 ?_
        refine k_imul K dX12_sideOf_33 ?_
        refine k_goto (tgt := 47) K dX12_sideOf_34 (by decide) ?_
        exact ret_i hR h dX12_sideOf_47 trivial
    · have h := if_t q h
      refine k_iconst (x := 2) K dX12_sideOf_16 (by decide) ?_
      refine k_iload_n K dX12_sideOf_17 1 rfl ?_
      refine k_imul K dX12_sideOf_18 ?_
      refine k_iconst (x := 1) K dX12_sideOf_19 (by decide) ?_
      refine k_iadd K dX12_sideOf_20 ?_
      refine k_goto (tgt := 47) K dX12_sideOf_21 (by decide) ?_
      exact ret_i hR h dX12_sideOf_47 trivial
  · have h := if_t q h
    refine k_iconst (x := 2) K dX12_sideOf_5 (by decide) ?_
    refine k_iload_n K dX12_sideOf_6 1 rfl ?_
    refine k_imul K dX12_sideOf_7 ?_
    refine k_goto (tgt := 47) K dX12_sideOf_8 (by decide) ?_
    exact ret_i hR h dX12_sideOf_47 trivial
-- X12_isKerb (1, 21)
theorem iX12_isKerb_X12 : ∀ w ∈ wsX120, w ∈ wsX12_isKerb := fun _ h => List.mem_cons_of_mem _ (List.mem_append_right _ h)
theorem fX12_isKerb_26 : Cond.fieldLink RX12 26 "SlopeCoinsModel" "kerbs" "[I" ∈ wsX12_isKerb := by decide +kernel
set_option maxRecDepth 100000 in
set_option maxHeartbeats 4000000 in
theorem ctX12_isKerb {l : Launch} {D : va_G} {cI cZ : ClassId} {ad : Nat → Nat} {v1 : Int32} {σ : St} {res : (Int32 × St)} (h : mX12_isKerb v1 σ = some res) : Ci l yX12_isKerb wsX12_isKerb 1 21 D vwCl (tysM cI cZ) nwM (mkM cI cZ ad) ad 17 [.ref (ad 0), .int v1] σ res := by
  refine c_bool (cc := cX12_isKerb) (maxL := 2) (by decide) rfl (Nat.le_of_ble_eq_true rfl) fun a b hn K hR => ?_
  unfold mX12_isKerb at h
  have K : KS (GM l 1 21 D cI cZ ad a b (w_A ad 17)) cX12_isKerb RX12 wsX12_isKerb (some .boolean) := K
  have hn : x_n (GM l 1 21 D cI cZ ad a b (w_A ad 17)) = 2 := hn
  refine k_sub [0, 1] rfl ?_
  refine k_aload_n K dX12_isKerb_0 0 rfl ?_
  refine k_get K 0 12 9 iX12_isKerb_X12 (Nat.le_of_ble_eq_true rfl) ((mM_0 cI cZ ad) _) rfl (by decide) fX12_isKerb_26 rfl dX12_isKerb_1 ?_
  refine k_iload_n K dX12_isKerb_4 1 rfl ?_
  refine k_iconst (x := 2) K dX12_isKerb_5 (by decide) ?_
  refine k_irem K dX12_isKerb_6 (by decide) ?_
  obtain ⟨g1, h⟩ := gd_some h
  refine k_ild K 6 0 (Nat.le_of_ble_eq_true rfl) ((mM_6 cI cZ ad) _) rfl g1 dX12_isKerb_7 ?_
  refine k_iload_n K dX12_isKerb_8 1 rfl ?_
  refine k_iconst (x := 2) K dX12_isKerb_9 (by decide) ?_
  refine k_idiv K dX12_isKerb_10 (by decide) ?_
  obtain ⟨⟨r2, s3⟩, e4, h⟩ := bd_some h
  dsimp only at h
  refine k_callSi K (ctX12_has e4) (va_cwS 2 K.ts gX12_isKerb_X12_has rfl rfl rfl hSX12_has ⟨Nat.le_of_ble_eq_true rfl, Nat.le_of_ble_eq_true rfl⟩) rfl rfl (Nat.le_of_ble_eq_true rfl) dX12_isKerb_11 ?_
  obtain ⟨g5, h⟩ := gd_some h
  exact ret_i hR h dX12_isKerb_14 g5
-- X12_isShut (2, 42)
theorem iX12_isShut_X12 : ∀ w ∈ wsX120, w ∈ wsX12_isShut := fun _ h => List.mem_cons_of_mem _ (List.mem_append_right _ h)
theorem fX12_isShut_56 : Cond.fieldLink RX12 56 "SlopeCoinsModel" "triedOne" "I" ∈ wsX12_isShut := by decide +kernel
theorem fX12_isShut_60 : Cond.fieldLink RX12 60 "SlopeCoinsModel" "triedTwo" "I" ∈ wsX12_isShut := by decide +kernel
set_option maxRecDepth 100000 in
set_option maxHeartbeats 4000000 in
theorem ctX12_isShut {l : Launch} {D : va_G} {cI cZ : ClassId} {ad : Nat → Nat} {v1 : Int32} {v2 : Int32} {σ : St} {res : (Int32 × St)} (h : mX12_isShut v1 v2 σ = some res) : Ci l yX12_isShut wsX12_isShut 2 42 D vwCl (tysM cI cZ) nwM (mkM cI cZ ad) ad 17 [.ref (ad 0), .int v1, .int v2] σ res := by
  refine c_bool (cc := cX12_isShut) (maxL := 4) (by decide) rfl (Nat.le_of_ble_eq_true rfl) fun a b hn K hR => ?_
  unfold mX12_isShut at h
  have K : KS (GM l 2 42 D cI cZ ad a b (w_A ad 17)) cX12_isShut RX12 wsX12_isShut (some .boolean) := K
  have hn : x_n (GM l 2 42 D cI cZ ad a b (w_A ad 17)) = 4 := hn
  refine k_sub [0, 1, 2] rfl ?_
  refine k_aload_n K dX12_isShut_0 0 rfl ?_
  refine k_iload_n K dX12_isShut_1 1 rfl ?_
  refine k_iload_n K dX12_isShut_2 2 rfl ?_
  obtain ⟨⟨r1, s2⟩, e3, h⟩ := bd_some h
  dsimp only at h
  refine k_callVi K 0 12 (Nat.le_of_ble_eq_true rfl) ((mM_0 cI cZ ad) _) rfl (ctX12_isEdge e3) (cwV 2 K.ts gX12_isShut_X12_isEdge rfl rfl rfl hVX12_isEdge ⟨Nat.le_of_ble_eq_true rfl, Nat.le_of_ble_eq_true rfl⟩) rfl rfl (Nat.le_of_ble_eq_true rfl) dX12_isShut_3 ?_
  refine k_if_eq (tgt := 11) K dX12_isShut_6 (by decide) (fun q => ?_) (fun q => ?_)
  · have h := if_t q h
    refine k_aload_n K dX12_isShut_11 0 rfl ?_
    refine k_iload_n K dX12_isShut_12 1 rfl ?_
    refine k_iload_n K dX12_isShut_13 2 rfl ?_
    obtain ⟨⟨r4, s5⟩, e6, h⟩ := bd_some h
    dsimp only at h
    refine k_callVi K 0 12 (Nat.le_of_ble_eq_true rfl) ((mM_0 cI cZ ad) _) rfl (ctX12_sideOf e6) (cwV 2 K.ts gX12_isShut_X12_sideOf rfl rfl rfl hVX12_sideOf ⟨Nat.le_of_ble_eq_true rfl, Nat.le_of_ble_eq_true rfl⟩) rfl rfl (Nat.le_of_ble_eq_true rfl) dX12_isShut_14 ?_
    refine k_istore_n (lv' := [(3, _), (0, _), (1, _), (2, _)]) K dX12_isShut_17 (by rw [hn]; decide) rfl ?_
    refine k_aload_n K dX12_isShut_18 1 rfl ?_
    refine k_iload_n K dX12_isShut_19 0 rfl ?_
    obtain ⟨⟨r7, s8⟩, e9, h⟩ := bd_some h
    dsimp only at h
    refine k_callVi K 0 12 (Nat.le_of_ble_eq_true rfl) ((mM_0 cI cZ ad) _) rfl (ctX12_isKerb e9) (cwV 1 K.ts gX12_isShut_X12_isKerb rfl rfl rfl hVX12_isKerb ⟨Nat.le_of_ble_eq_true rfl, Nat.le_of_ble_eq_true rfl⟩) rfl rfl (Nat.le_of_ble_eq_true rfl) dX12_isShut_20 ?_
    refine k_if_ne (tgt := 50) K dX12_isShut_23 (by decide) (fun q => ?_) (fun q => ?_)
    · have h := if_f q h
      refine k_iconst (x := 1) K dX12_isShut_50 (by decide) ?_
      refine k_goto (tgt := 55) K dX12_isShut_51 (by decide) ?_
      exact ret_i hR h dX12_isShut_55 zb_1
    · have h := if_t q h
      refine k_aload_n K dX12_isShut_26 1 rfl ?_
      refine k_iload_n K dX12_isShut_27 0 rfl ?_
      obtain ⟨⟨r10, s11⟩, e12, h⟩ := bd_some h
      dsimp only at h
      refine k_callVi K 0 12 (Nat.le_of_ble_eq_true rfl) ((mM_0 cI cZ ad) _) rfl (ctX12_isPlank e12) (cwV 1 K.ts gX12_isShut_X12_isPlank rfl rfl rfl hVX12_isPlank ⟨Nat.le_of_ble_eq_true rfl, Nat.le_of_ble_eq_true rfl⟩) rfl rfl (Nat.le_of_ble_eq_true rfl) dX12_isShut_28 ?_
      refine k_if_ne (tgt := 50) K dX12_isShut_31 (by decide) (fun q => ?_) (fun q => ?_)
      · have h := if_f q h
        refine k_iconst (x := 1) K dX12_isShut_50 (by decide) ?_
        refine k_goto (tgt := 55) K dX12_isShut_51 (by decide) ?_
        exact ret_i hR h dX12_isShut_55 zb_1
      · have h := if_t q h
        refine k_iload_n K dX12_isShut_34 0 rfl ?_
        refine k_aload_n K dX12_isShut_35 1 rfl ?_
        refine k_get K 0 12 30 iX12_isShut_X12 (Nat.le_of_ble_eq_true rfl) ((mM_0 cI cZ ad) _) rfl (by decide) fX12_isShut_56 rfl dX12_isShut_36 ?_
        refine k_icmp_eq (tgt := 50) K dX12_isShut_39 (by decide) (fun q => ?_) (fun q => ?_)
        · have h := if_t q h
          refine k_iconst (x := 1) K dX12_isShut_50 (by decide) ?_
          refine k_goto (tgt := 55) K dX12_isShut_51 (by decide) ?_
          exact ret_i hR h dX12_isShut_55 zb_1
        · have h := if_f q h
          refine k_iload_n K dX12_isShut_42 0 rfl ?_
          refine k_aload_n K dX12_isShut_43 1 rfl ?_
          refine k_get K 0 12 31 iX12_isShut_X12 (Nat.le_of_ble_eq_true rfl) ((mM_0 cI cZ ad) _) rfl (by decide) fX12_isShut_60 rfl dX12_isShut_44 ?_
          refine k_icmp_ne (tgt := 54) K dX12_isShut_47 (by decide) (fun q => ?_) (fun q => ?_)
          · have h := if_f q h
            refine k_iconst (x := 0) K dX12_isShut_54 (by decide) ?_
            exact ret_i hR h dX12_isShut_55 zb_0
          · have h := if_t q h
            refine k_iconst (x := 1) K dX12_isShut_50 (by decide) ?_
            refine k_goto (tgt := 55) K dX12_isShut_51 (by decide) ?_
            exact ret_i hR h dX12_isShut_55 zb_1
  · have h := if_f q h
    refine k_iconst (x := 1) K dX12_isShut_9 (by decide) ?_
    exact ret_i hR h dX12_isShut_10 zb_1
-- X12_shutWays (3, 65)
set_option maxRecDepth 100000 in
set_option maxHeartbeats 4000000 in
theorem wX12_shutWays_26 {l : Launch} {D : va_G} {cI cZ : ClassId} {ad : Nat → Nat} {a : Program × Env × State × MethodId} {b : Array Value × List Frame × Method × Code × (State → Prop) × Nat} {A : Nat → Prop} {rc : Int32 → Int32 → Int32 → St → Option (Int32 × St)} (K : KS (GM l 3 65 D cI cZ ad a b A) cX12_shutWays RX12 wsX12_shutWays (some .int)) (hn : x_n (GM l 3 65 D cI cZ ad a b A) = 4) {res : (Int32 × St)} (hR : HRi (GM l 3 65 D cI cZ ad a b A) cX12_shutWays tb res) (hrc : ∀ (v1 : Int32) (v2 : Int32) (v3 : Int32) (σ : St), rc v1 v2 v3 σ = some res → Wk (GM l 3 65 D cI cZ ad a b A) 4 [(0, .ref (ad 0)), (1, .int v1), (2, .int v2), (3, .int v3)] [] σ) : ∀ (v1 : Int32), ∀ (v3 : Int32), ∀ (t0 : Int32), ∀ (t1 : Int32), ∀ (σ : St), mX12_shutWays_26 rc v1 v3 t0 t1 σ = some res → Wk (GM l 3 65 D cI cZ ad a b A) 26 [(0, .ref (ad 0)), (1, .int v1), (3, .int v3)] [.int t0, .int t1] σ := by
  intro v1 v3 t0 t1 σ h
  unfold mX12_shutWays_26 at h
  refine k_ior K dX12_shutWays_26 ?_
  have h := lt_some h
  refine k_istore_n (lv' := [(2, _), (0, _), (1, _), (3, _)]) K dX12_shutWays_27 (by rw [hn]; decide) rfl ?_
  have h := lt_some h
  refine k_iinc (lv' := [(3, _), (2, _), (0, _), (1, _)]) K dX12_shutWays_28 3 rfl (v := _ + 1) (by rfl) (by rw [hn]; decide) rfl ?_
  refine k_goto (tgt := 4) K dX12_shutWays_31 (by decide) ?_
  exact k_sub [2, 3, 1, 0] rfl (hrc _ _ _ _ h)
set_option maxRecDepth 100000 in
set_option maxHeartbeats 4000000 in
theorem wX12_shutWays_4 {l : Launch} {D : va_G} {cI cZ : ClassId} {ad : Nat → Nat} {a : Program × Env × State × MethodId} {b : Array Value × List Frame × Method × Code × (State → Prop) × Nat} {A : Nat → Prop} (K : KS (GM l 3 65 D cI cZ ad a b A) cX12_shutWays RX12 wsX12_shutWays (some .int)) (hn : x_n (GM l 3 65 D cI cZ ad a b A) = 4) {res : (Int32 × St)} (hR : HRi (GM l 3 65 D cI cZ ad a b A) cX12_shutWays tb res) : ∀ (n : Nat) (v1 : Int32) (v2 : Int32) (v3 : Int32) (σ : St), mX12_shutWays_4 n v1 v2 v3 σ = some res → Wk (GM l 3 65 D cI cZ ad a b A) 4 [(0, .ref (ad 0)), (1, .int v1), (2, .int v2), (3, .int v3)] [] σ := by
  intro n
  induction n with
  | zero => intro v1 v2 v3 σ h; cases h
  | succ n ih =>
    intro v1 v2 v3 σ h
    unfold mX12_shutWays_4 at h
    refine k_iload_n K dX12_shutWays_4 3 rfl ?_
    refine k_iconst (x := 4) K dX12_shutWays_5 (by decide) ?_
    refine k_icmp_ge (tgt := 34) K dX12_shutWays_6 (by decide) (fun q => ?_) (fun q => ?_)
    · have h := if_f q h
      refine k_iload_n K dX12_shutWays_34 2 rfl ?_
      exact ret_i hR h dX12_shutWays_35 trivial
    · have h := if_t q h
      refine k_iload_n K dX12_shutWays_9 2 rfl ?_
      refine k_aload_n K dX12_shutWays_10 0 rfl ?_
      refine k_iload_n K dX12_shutWays_11 1 rfl ?_
      refine k_iload_n K dX12_shutWays_12 3 rfl ?_
      obtain ⟨⟨r1, s2⟩, e3, h⟩ := bd_some h
      dsimp only at h
      refine k_callVi K 0 12 (Nat.le_of_ble_eq_true rfl) ((mM_0 cI cZ ad) _) rfl (ctX12_isShut e3) (cwV 2 K.ts gX12_shutWays_X12_isShut rfl rfl rfl hVX12_isShut ⟨Nat.le_of_ble_eq_true rfl, Nat.le_of_ble_eq_true rfl⟩) rfl rfl (Nat.le_of_ble_eq_true rfl) dX12_shutWays_13 ?_
      refine k_if_eq (tgt := 25) K dX12_shutWays_16 (by decide) (fun q => ?_) (fun q => ?_)
      · have h := if_t q h
        refine k_iconst (x := 0) K dX12_shutWays_25 (by decide) ?_
        exact k_sub [0, 1, 3] rfl (wX12_shutWays_26 K hn hR ih _ _ _ _ _ h)
      · have h := if_f q h
        refine k_iconst (x := 1) K dX12_shutWays_19 (by decide) ?_
        refine k_iload_n K dX12_shutWays_20 3 rfl ?_
        refine k_ishl K dX12_shutWays_21 ?_
        refine k_goto (tgt := 26) K dX12_shutWays_22 (by decide) ?_
        exact k_sub [0, 1, 3] rfl (wX12_shutWays_26 K hn hR ih _ _ _ _ _ h)
set_option maxRecDepth 100000 in
set_option maxHeartbeats 4000000 in
theorem ctX12_shutWays {l : Launch} {D : va_G} {cI cZ : ClassId} {ad : Nat → Nat} {v1 : Int32} {σ : St} {res : (Int32 × St)} (h : mX12_shutWays v1 σ = some res) : Ci l yX12_shutWays wsX12_shutWays 3 65 D vwCl (tysM cI cZ) nwM (mkM cI cZ ad) ad 17 [.ref (ad 0), .int v1] σ res := by
  refine c_int (cc := cX12_shutWays) (maxL := 4) (by decide) rfl (Nat.le_of_ble_eq_true rfl) fun a b hn K hR => ?_
  unfold mX12_shutWays at h
  have K : KS (GM l 3 65 D cI cZ ad a b (w_A ad 17)) cX12_shutWays RX12 wsX12_shutWays (some .int) := K
  have hn : x_n (GM l 3 65 D cI cZ ad a b (w_A ad 17)) = 4 := hn
  refine k_sub [0, 1] rfl ?_
  refine k_iconst (x := 0) K dX12_shutWays_0 (by decide) ?_
  refine k_istore_n (lv' := [(2, _), (0, _), (1, _)]) K dX12_shutWays_1 (by rw [hn]; decide) rfl ?_
  refine k_iconst (x := 0) K dX12_shutWays_2 (by decide) ?_
  refine k_istore_n (lv' := [(3, _), (2, _), (0, _), (1, _)]) K dX12_shutWays_3 (by rw [hn]; decide) rfl ?_
  exact k_sub [2, 3, 1, 0] rfl (wX12_shutWays_4 K hn hR FU _ _ _ _ h)
-- X12_wayFrom (3, 65)
theorem iX12_wayFrom_X12 : ∀ w ∈ wsX120, w ∈ wsX12_wayFrom := fun _ h => List.mem_cons_of_mem _ (List.mem_append_right _ h)
theorem fX12_wayFrom_7 : Cond.fieldLink RX12 7 "SlopeCoinsModel" "row" "[I" ∈ wsX12_wayFrom := by decide +kernel
set_option maxRecDepth 100000 in
set_option maxHeartbeats 4000000 in
theorem wX12_wayFrom_130 {l : Launch} {D : va_G} {cI cZ : ClassId} {ad : Nat → Nat} {a : Program × Env × State × MethodId} {b : Array Value × List Frame × Method × Code × (State → Prop) × Nat} {A : Nat → Prop} {rc : Int32 → Int32 → Int32 → Int32 → Int32 → Int32 → St → Option (Int32 × St)} (K : KS (GM l 3 65 D cI cZ ad a b A) cX12_wayFrom RX12 wsX12_wayFrom (some .int)) (hn : x_n (GM l 3 65 D cI cZ ad a b A) = 10) {res : (Int32 × St)} (hR : HRi (GM l 3 65 D cI cZ ad a b A) cX12_wayFrom tb res) (hrc : ∀ (v1 : Int32) (v2 : Int32) (v3 : Int32) (v4 : Int32) (v5 : Int32) (v6 : Int32) (σ : St), rc v1 v2 v3 v4 v5 v6 σ = some res → Wk (GM l 3 65 D cI cZ ad a b A) 17 [(0, .ref (ad 0)), (1, .int v1), (2, .int v2), (3, .int v3), (4, .int v4), (5, .int v5), (6, .int v6)] [] σ) : ∀ (v1 : Int32), ∀ (v2 : Int32), ∀ (v3 : Int32), ∀ (v4 : Int32), ∀ (v6 : Int32), ∀ (t0 : Int32), ∀ (σ : St), mX12_wayFrom_130 rc v1 v2 v3 v4 v6 t0 σ = some res → Wk (GM l 3 65 D cI cZ ad a b A) 130 [(0, .ref (ad 0)), (1, .int v1), (2, .int v2), (3, .int v3), (4, .int v4), (6, .int v6)] [.int t0] σ := by
  intro v1 v2 v3 v4 v6 t0 σ h
  unfold mX12_wayFrom_130 at h
  refine k_istore (lv' := [(5, _), (0, _), (1, _), (2, _), (3, _), (4, _), (6, _)]) K dX12_wayFrom_130 (by rw [hn]; decide) rfl ?_
  have h := lt_some h
  refine k_iinc (lv' := [(6, _), (5, _), (0, _), (1, _), (2, _), (3, _), (4, _)]) K dX12_wayFrom_132 6 rfl (v := _ + 1) (by rfl) (by rw [hn]; decide) rfl ?_
  refine k_goto (tgt := 17) K dX12_wayFrom_135 (by decide) ?_
  exact k_sub [2, 3, 4, 5, 6, 1, 0] rfl (hrc _ _ _ _ _ _ _ h)
set_option maxRecDepth 100000 in
set_option maxHeartbeats 4000000 in
theorem wX12_wayFrom_116 {l : Launch} {D : va_G} {cI cZ : ClassId} {ad : Nat → Nat} {a : Program × Env × State × MethodId} {b : Array Value × List Frame × Method × Code × (State → Prop) × Nat} {A : Nat → Prop} {rc : Int32 → Int32 → Int32 → Int32 → Int32 → Int32 → St → Option (Int32 × St)} (K : KS (GM l 3 65 D cI cZ ad a b A) cX12_wayFrom RX12 wsX12_wayFrom (some .int)) (hn : x_n (GM l 3 65 D cI cZ ad a b A) = 10) {res : (Int32 × St)} (hR : HRi (GM l 3 65 D cI cZ ad a b A) cX12_wayFrom tb res) (hrc : ∀ (v1 : Int32) (v2 : Int32) (v3 : Int32) (v4 : Int32) (v5 : Int32) (v6 : Int32) (σ : St), rc v1 v2 v3 v4 v5 v6 σ = some res → Wk (GM l 3 65 D cI cZ ad a b A) 17 [(0, .ref (ad 0)), (1, .int v1), (2, .int v2), (3, .int v3), (4, .int v4), (5, .int v5), (6, .int v6)] [] σ) : ∀ (v1 : Int32), ∀ (v2 : Int32), ∀ (v3 : Int32), ∀ (v5 : Int32), ∀ (v6 : Int32), ∀ (v8 : Int32), ∀ (v9 : Int32), ∀ (t0 : Int32), ∀ (σ : St), mX12_wayFrom_116 rc v1 v2 v3 v5 v6 v8 v9 t0 σ = some res → Wk (GM l 3 65 D cI cZ ad a b A) 116 [(0, .ref (ad 0)), (1, .int v1), (2, .int v2), (3, .int v3), (5, .int v5), (6, .int v6), (8, .int v8), (9, .int v9)] [.int t0] σ := by
  intro v1 v2 v3 v5 v6 v8 v9 t0 σ h
  unfold mX12_wayFrom_116 at h
  refine k_istore (lv' := [(4, _), (0, _), (1, _), (2, _), (3, _), (5, _), (6, _), (8, _), (9, _)]) K dX12_wayFrom_116 (by rw [hn]; decide) rfl ?_
  refine k_iload K dX12_wayFrom_118 8 rfl ?_
  refine k_if_eq (tgt := 128) K dX12_wayFrom_120 (by decide) (fun q => ?_) (fun q => ?_)
  · have h := if_t q h
    refine k_iload K dX12_wayFrom_128 5 rfl ?_
    exact k_sub [1, 2, 3, 4, 0, 6] rfl (wX12_wayFrom_130 K hn hR hrc _ _ _ _ _ _ _ h)
  · have h := if_f q h
    refine k_iload K dX12_wayFrom_123 7 rfl ?_
    refine k_goto (tgt := 130) K dX12_wayFrom_125 (by decide) ?_
    exact k_sub [1, 2, 3, 4, 0, 6] rfl (wX12_wayFrom_130 K hn hR hrc _ _ _ _ _ _ _ h)
set_option maxRecDepth 100000 in
set_option maxHeartbeats 4000000 in
theorem wX12_wayFrom_102 {l : Launch} {D : va_G} {cI cZ : ClassId} {ad : Nat → Nat} {a : Program × Env × State × MethodId} {b : Array Value × List Frame × Method × Code × (State → Prop) × Nat} {A : Nat → Prop} {rc : Int32 → Int32 → Int32 → Int32 → Int32 → Int32 → St → Option (Int32 × St)} (K : KS (GM l 3 65 D cI cZ ad a b A) cX12_wayFrom RX12 wsX12_wayFrom (some .int)) (hn : x_n (GM l 3 65 D cI cZ ad a b A) = 10) {res : (Int32 × St)} (hR : HRi (GM l 3 65 D cI cZ ad a b A) cX12_wayFrom tb res) (hrc : ∀ (v1 : Int32) (v2 : Int32) (v3 : Int32) (v4 : Int32) (v5 : Int32) (v6 : Int32) (σ : St), rc v1 v2 v3 v4 v5 v6 σ = some res → Wk (GM l 3 65 D cI cZ ad a b A) 17 [(0, .ref (ad 0)), (1, .int v1), (2, .int v2), (3, .int v3), (4, .int v4), (5, .int v5), (6, .int v6)] [] σ) : ∀ (v1 : Int32), ∀ (v2 : Int32), ∀ (v3 : Int32), ∀ (v4 : Int32), ∀ (v5 : Int32), ∀ (v6 : Int32), ∀ (v7 : Int32), ∀ (v8 : Int32), ∀ (t0 : Int32), ∀ (σ : St), mX12_wayFrom_102 rc v1 v2 v3 v4 v5 v6 v7 v8 t0 σ = some res → Wk (GM l 3 65 D cI cZ ad a b A) 102 [(0, .ref (ad 0)), (1, .int v1), (2, .int v2), (3, .int v3), (4, .int v4), (5, .int v5), (6, .int v6), (7, .int v7), (8, .int v8)] [.int t0] σ := by
  intro v1 v2 v3 v4 v5 v6 v7 v8 t0 σ h
  unfold mX12_wayFrom_102 at h
  refine k_istore (lv' := [(9, _), (0, _), (1, _), (2, _), (3, _), (4, _), (5, _), (6, _), (7, _), (8, _)]) K dX12_wayFrom_102 (by rw [hn]; decide) rfl ?_
  refine k_iload K dX12_wayFrom_104 0 rfl ?_
  refine k_if_eq (tgt := 114) K dX12_wayFrom_106 (by decide) (fun q => ?_) (fun q => ?_)
  · have h := if_t q h
    refine k_iload K dX12_wayFrom_114 5 rfl ?_
    exact k_sub [1, 2, 3, 4, 6, 7, 9, 0] rfl (wX12_wayFrom_116 K hn hR hrc _ _ _ _ _ _ _ _ _ h)
  · have h := if_f q h
    refine k_iload K dX12_wayFrom_109 8 rfl ?_
    refine k_goto (tgt := 116) K dX12_wayFrom_111 (by decide) ?_
    exact k_sub [1, 2, 3, 4, 6, 7, 9, 0] rfl (wX12_wayFrom_116 K hn hR hrc _ _ _ _ _ _ _ _ _ h)
set_option maxRecDepth 100000 in
set_option maxHeartbeats 4000000 in
theorem wX12_wayFrom_97 {l : Launch} {D : va_G} {cI cZ : ClassId} {ad : Nat → Nat} {a : Program × Env × State × MethodId} {b : Array Value × List Frame × Method × Code × (State → Prop) × Nat} {A : Nat → Prop} {rc : Int32 → Int32 → Int32 → Int32 → Int32 → Int32 → St → Option (Int32 × St)} (K : KS (GM l 3 65 D cI cZ ad a b A) cX12_wayFrom RX12 wsX12_wayFrom (some .int)) (hn : x_n (GM l 3 65 D cI cZ ad a b A) = 10) {res : (Int32 × St)} (hR : HRi (GM l 3 65 D cI cZ ad a b A) cX12_wayFrom tb res) (hrc : ∀ (v1 : Int32) (v2 : Int32) (v3 : Int32) (v4 : Int32) (v5 : Int32) (v6 : Int32) (σ : St), rc v1 v2 v3 v4 v5 v6 σ = some res → Wk (GM l 3 65 D cI cZ ad a b A) 17 [(0, .ref (ad 0)), (1, .int v1), (2, .int v2), (3, .int v3), (4, .int v4), (5, .int v5), (6, .int v6)] [] σ) : ∀ (v1 : Int32), ∀ (v2 : Int32), ∀ (v3 : Int32), ∀ (v4 : Int32), ∀ (v5 : Int32), ∀ (v6 : Int32), ∀ (v7 : Int32), ∀ (v8 : Int32), ∀ (σ : St), mX12_wayFrom_97 rc v1 v2 v3 v4 v5 v6 v7 v8 σ = some res → Wk (GM l 3 65 D cI cZ ad a b A) 97 [(0, .ref (ad 0)), (1, .int v1), (2, .int v2), (3, .int v3), (4, .int v4), (5, .int v5), (6, .int v6), (7, .int v7), (8, .int v8)] [] σ := by
  intro v1 v2 v3 v4 v5 v6 v7 v8 σ h
  unfold mX12_wayFrom_97 at h
  refine k_iconst (x := 1) K dX12_wayFrom_97 (by decide) ?_
  refine k_goto (tgt := 102) K dX12_wayFrom_98 (by decide) ?_
  exact k_sub [0, 1, 2, 3, 4, 5, 6, 7, 8] rfl (wX12_wayFrom_102 K hn hR hrc _ _ _ _ _ _ _ _ _ _ h)
set_option maxRecDepth 100000 in
set_option maxHeartbeats 4000000 in
theorem wX12_wayFrom_101 {l : Launch} {D : va_G} {cI cZ : ClassId} {ad : Nat → Nat} {a : Program × Env × State × MethodId} {b : Array Value × List Frame × Method × Code × (State → Prop) × Nat} {A : Nat → Prop} {rc : Int32 → Int32 → Int32 → Int32 → Int32 → Int32 → St → Option (Int32 × St)} (K : KS (GM l 3 65 D cI cZ ad a b A) cX12_wayFrom RX12 wsX12_wayFrom (some .int)) (hn : x_n (GM l 3 65 D cI cZ ad a b A) = 10) {res : (Int32 × St)} (hR : HRi (GM l 3 65 D cI cZ ad a b A) cX12_wayFrom tb res) (hrc : ∀ (v1 : Int32) (v2 : Int32) (v3 : Int32) (v4 : Int32) (v5 : Int32) (v6 : Int32) (σ : St), rc v1 v2 v3 v4 v5 v6 σ = some res → Wk (GM l 3 65 D cI cZ ad a b A) 17 [(0, .ref (ad 0)), (1, .int v1), (2, .int v2), (3, .int v3), (4, .int v4), (5, .int v5), (6, .int v6)] [] σ) : ∀ (v1 : Int32), ∀ (v2 : Int32), ∀ (v3 : Int32), ∀ (v4 : Int32), ∀ (v5 : Int32), ∀ (v6 : Int32), ∀ (v7 : Int32), ∀ (v8 : Int32), ∀ (σ : St), mX12_wayFrom_101 rc v1 v2 v3 v4 v5 v6 v7 v8 σ = some res → Wk (GM l 3 65 D cI cZ ad a b A) 101 [(0, .ref (ad 0)), (1, .int v1), (2, .int v2), (3, .int v3), (4, .int v4), (5, .int v5), (6, .int v6), (7, .int v7), (8, .int v8)] [] σ := by
  intro v1 v2 v3 v4 v5 v6 v7 v8 σ h
  unfold mX12_wayFrom_101 at h
  refine k_iconst (x := 0) K dX12_wayFrom_101 (by decide) ?_
  exact k_sub [0, 1, 2, 3, 4, 5, 6, 7, 8] rfl (wX12_wayFrom_102 K hn hR hrc _ _ _ _ _ _ _ _ _ _ h)
set_option maxRecDepth 100000 in
set_option maxHeartbeats 4000000 in
theorem wX12_wayFrom_68 {l : Launch} {D : va_G} {cI cZ : ClassId} {ad : Nat → Nat} {a : Program × Env × State × MethodId} {b : Array Value × List Frame × Method × Code × (State → Prop) × Nat} {A : Nat → Prop} {rc : Int32 → Int32 → Int32 → Int32 → Int32 → Int32 → St → Option (Int32 × St)} (K : KS (GM l 3 65 D cI cZ ad a b A) cX12_wayFrom RX12 wsX12_wayFrom (some .int)) (hn : x_n (GM l 3 65 D cI cZ ad a b A) = 10) {res : (Int32 × St)} (hR : HRi (GM l 3 65 D cI cZ ad a b A) cX12_wayFrom tb res) (hrc : ∀ (v1 : Int32) (v2 : Int32) (v3 : Int32) (v4 : Int32) (v5 : Int32) (v6 : Int32) (σ : St), rc v1 v2 v3 v4 v5 v6 σ = some res → Wk (GM l 3 65 D cI cZ ad a b A) 17 [(0, .ref (ad 0)), (1, .int v1), (2, .int v2), (3, .int v3), (4, .int v4), (5, .int v5), (6, .int v6)] [] σ) : ∀ (v1 : Int32), ∀ (v2 : Int32), ∀ (v3 : Int32), ∀ (v4 : Int32), ∀ (v5 : Int32), ∀ (v6 : Int32), ∀ (v7 : Int32), ∀ (t0 : Int32), ∀ (σ : St), mX12_wayFrom_68 rc v1 v2 v3 v4 v5 v6 v7 t0 σ = some res → Wk (GM l 3 65 D cI cZ ad a b A) 68 [(0, .ref (ad 0)), (1, .int v1), (2, .int v2), (3, .int v3), (4, .int v4), (5, .int v5), (6, .int v6), (7, .int v7)] [.int t0] σ := by
  intro v1 v2 v3 v4 v5 v6 v7 t0 σ h
  unfold mX12_wayFrom_68 at h
  refine k_istore (lv' := [(8, _), (0, _), (1, _), (2, _), (3, _), (4, _), (5, _), (6, _), (7, _)]) K dX12_wayFrom_68 (by rw [hn]; decide) rfl ?_
  refine k_iload K dX12_wayFrom_70 0 rfl ?_
  refine k_iload K dX12_wayFrom_72 6 rfl ?_
  refine k_icmp_lt (tgt := 97) K dX12_wayFrom_74 (by decide) (fun q => ?_) (fun q => ?_)
  · have h := if_t q h
    exact k_sub [1, 2, 3, 4, 5, 6, 7, 8, 0] rfl (wX12_wayFrom_97 K hn hR hrc _ _ _ _ _ _ _ _ _ h)
  · have h := if_f q h
    refine k_iload K dX12_wayFrom_77 0 rfl ?_
    refine k_iload K dX12_wayFrom_79 6 rfl ?_
    refine k_icmp_ne (tgt := 101) K dX12_wayFrom_81 (by decide) (fun q => ?_) (fun q => ?_)
    · have h := if_f q h
      exact k_sub [1, 2, 3, 4, 5, 6, 7, 8, 0] rfl (wX12_wayFrom_101 K hn hR hrc _ _ _ _ _ _ _ _ _ h)
    · have h := if_t q h
      refine k_iload K dX12_wayFrom_84 5 rfl ?_
      refine k_bipush (x := (-9)) K dX12_wayFrom_86 (by decide) ?_
      refine k_icmp_eq (tgt := 101) K dX12_wayFrom_88 (by decide) (fun q => ?_) (fun q => ?_)
      · have h := if_t q h
        exact k_sub [1, 2, 3, 4, 5, 6, 7, 8, 0] rfl (wX12_wayFrom_101 K hn hR hrc _ _ _ _ _ _ _ _ _ h)
      · have h := if_f q h
        refine k_iload K dX12_wayFrom_91 8 rfl ?_
        refine k_iload_n K dX12_wayFrom_93 3 rfl ?_
        refine k_icmp_ne (tgt := 101) K dX12_wayFrom_94 (by decide) (fun q => ?_) (fun q => ?_)
        · have h := if_f q h
          exact k_sub [1, 2, 3, 4, 5, 6, 7, 8, 0] rfl (wX12_wayFrom_101 K hn hR hrc _ _ _ _ _ _ _ _ _ h)
        · have h := if_t q h
          exact k_sub [1, 2, 3, 4, 5, 6, 7, 8, 0] rfl (wX12_wayFrom_97 K hn hR hrc _ _ _ _ _ _ _ _ _ h)
set_option maxRecDepth 100000 in
set_option maxHeartbeats 4000000 in
theorem wX12_wayFrom_37 {l : Launch} {D : va_G} {cI cZ : ClassId} {ad : Nat → Nat} {a : Program × Env × State × MethodId} {b : Array Value × List Frame × Method × Code × (State → Prop) × Nat} {A : Nat → Prop} {rc : Int32 → Int32 → Int32 → Int32 → Int32 → Int32 → St → Option (Int32 × St)} (K : KS (GM l 3 65 D cI cZ ad a b A) cX12_wayFrom RX12 wsX12_wayFrom (some .int)) (hn : x_n (GM l 3 65 D cI cZ ad a b A) = 10) {res : (Int32 × St)} (hR : HRi (GM l 3 65 D cI cZ ad a b A) cX12_wayFrom tb res) (hrc : ∀ (v1 : Int32) (v2 : Int32) (v3 : Int32) (v4 : Int32) (v5 : Int32) (v6 : Int32) (σ : St), rc v1 v2 v3 v4 v5 v6 σ = some res → Wk (GM l 3 65 D cI cZ ad a b A) 17 [(0, .ref (ad 0)), (1, .int v1), (2, .int v2), (3, .int v3), (4, .int v4), (5, .int v5), (6, .int v6)] [] σ) : ∀ (v1 : Int32), ∀ (v2 : Int32), ∀ (v3 : Int32), ∀ (v4 : Int32), ∀ (v5 : Int32), ∀ (v6 : Int32), ∀ (t0 : Int32), ∀ (σ : St), mX12_wayFrom_37 rc v1 v2 v3 v4 v5 v6 t0 σ = some res → Wk (GM l 3 65 D cI cZ ad a b A) 37 [(0, .ref (ad 0)), (1, .int v1), (2, .int v2), (3, .int v3), (4, .int v4), (5, .int v5), (6, .int v6)] [.int t0] σ := by
  intro v1 v2 v3 v4 v5 v6 t0 σ h
  unfold mX12_wayFrom_37 at h
  refine k_istore (lv' := [(7, _), (0, _), (1, _), (2, _), (3, _), (4, _), (5, _), (6, _)]) K dX12_wayFrom_37 (by rw [hn]; decide) rfl ?_
  refine k_aload_n K dX12_wayFrom_39 1 rfl ?_
  refine k_iload_n K dX12_wayFrom_40 2 rfl ?_
  refine k_iload K dX12_wayFrom_41 0 rfl ?_
  obtain ⟨⟨r3, s4⟩, e5, h⟩ := bd_some h
  dsimp only at h
  refine k_callVi K 0 12 (Nat.le_of_ble_eq_true rfl) ((mM_0 cI cZ ad) _) rfl (ctX12_isShut e5) (cwV 2 K.ts gX12_wayFrom_X12_isShut rfl rfl rfl hVX12_isShut ⟨Nat.le_of_ble_eq_true rfl, Nat.le_of_ble_eq_true rfl⟩) rfl rfl (Nat.le_of_ble_eq_true rfl) dX12_wayFrom_43 ?_
  refine k_if_eq (tgt := 54) K dX12_wayFrom_46 (by decide) (fun q => ?_) (fun q => ?_)
  · have h := if_t q h
    refine k_aload_n K dX12_wayFrom_54 1 rfl ?_
    refine k_get K 0 12 0 iX12_wayFrom_X12 (Nat.le_of_ble_eq_true rfl) ((mM_0 cI cZ ad) _) rfl (by decide) fX12_wayFrom_7 rfl dX12_wayFrom_55 ?_
    refine k_iconst (x := 1) K dX12_wayFrom_58 (by decide) ?_
    refine k_aload_n K dX12_wayFrom_59 1 rfl ?_
    refine k_iload_n K dX12_wayFrom_60 2 rfl ?_
    refine k_iload K dX12_wayFrom_61 0 rfl ?_
    obtain ⟨⟨r6, s7⟩, e8, h⟩ := bd_some h
    dsimp only at h
    refine k_callVi K 0 12 (Nat.le_of_ble_eq_true rfl) ((mM_0 cI cZ ad) _) rfl (ctX12_beside e8) (cwV 2 K.ts gX12_wayFrom_X12_beside rfl rfl rfl hVX12_beside ⟨Nat.le_of_ble_eq_true rfl, Nat.le_of_ble_eq_true rfl⟩) rfl rfl (Nat.le_of_ble_eq_true rfl) dX12_wayFrom_63 ?_
    refine k_iadd K dX12_wayFrom_66 ?_
    obtain ⟨g9, h⟩ := gd_some h
    refine k_ild K 1 0 (Nat.le_of_ble_eq_true rfl) ((mM_1 cI cZ ad) _) rfl g9 dX12_wayFrom_67 ?_
    exact k_sub [1, 2, 3, 4, 5, 6, 7, 0] rfl (wX12_wayFrom_68 K hn hR hrc _ _ _ _ _ _ _ _ _ h)
  · have h := if_f q h
    refine k_bipush (x := 99) K dX12_wayFrom_49 (by decide) ?_
    refine k_goto (tgt := 68) K dX12_wayFrom_51 (by decide) ?_
    exact k_sub [1, 2, 3, 4, 5, 6, 7, 0] rfl (wX12_wayFrom_68 K hn hR hrc _ _ _ _ _ _ _ _ _ h)
set_option maxRecDepth 100000 in
set_option maxHeartbeats 4000000 in
theorem wX12_wayFrom_17 {l : Launch} {D : va_G} {cI cZ : ClassId} {ad : Nat → Nat} {a : Program × Env × State × MethodId} {b : Array Value × List Frame × Method × Code × (State → Prop) × Nat} {A : Nat → Prop} (K : KS (GM l 3 65 D cI cZ ad a b A) cX12_wayFrom RX12 wsX12_wayFrom (some .int)) (hn : x_n (GM l 3 65 D cI cZ ad a b A) = 10) {res : (Int32 × St)} (hR : HRi (GM l 3 65 D cI cZ ad a b A) cX12_wayFrom tb res) : ∀ (n : Nat) (v1 : Int32) (v2 : Int32) (v3 : Int32) (v4 : Int32) (v5 : Int32) (v6 : Int32) (σ : St), mX12_wayFrom_17 n v1 v2 v3 v4 v5 v6 σ = some res → Wk (GM l 3 65 D cI cZ ad a b A) 17 [(0, .ref (ad 0)), (1, .int v1), (2, .int v2), (3, .int v3), (4, .int v4), (5, .int v5), (6, .int v6)] [] σ := by
  intro n
  induction n with
  | zero => intro v1 v2 v3 v4 v5 v6 σ h; cases h
  | succ n ih =>
    intro v1 v2 v3 v4 v5 v6 σ h
    unfold mX12_wayFrom_17 at h
    refine k_iload K dX12_wayFrom_17 6 rfl ?_
    refine k_iconst (x := 4) K dX12_wayFrom_19 (by decide) ?_
    refine k_icmp_ge (tgt := 138) K dX12_wayFrom_20 (by decide) (fun q => ?_) (fun q => ?_)
    · have h := if_f q h
      refine k_iload K dX12_wayFrom_138 4 rfl ?_
      exact ret_i hR h dX12_wayFrom_140 trivial
    · have h := if_t q h
      refine k_iload_n K dX12_wayFrom_23 3 rfl ?_
      refine k_iconst (x := 1) K dX12_wayFrom_24 (by decide) ?_
      refine k_icmp_ne (tgt := 35) K dX12_wayFrom_25 (by decide) (fun q => ?_) (fun q => ?_)
      · have h := if_f q h
        refine k_iload K dX12_wayFrom_35 6 rfl ?_
        exact k_sub [0, 1, 2, 3, 4, 5, 6] rfl (wX12_wayFrom_37 K hn hR ih _ _ _ _ _ _ _ _ h)
      · have h := if_t q h
        refine k_iconst (x := 3) K dX12_wayFrom_28 (by decide) ?_
        refine k_iload K dX12_wayFrom_29 6 rfl ?_
        refine k_isub K dX12_wayFrom_31 ?_
        refine k_goto (tgt := 37) K dX12_wayFrom_32 (by decide) ?_
        exact k_sub [0, 1, 2, 3, 4, 5, 6] rfl (wX12_wayFrom_37 K hn hR ih _ _ _ _ _ _ _ _ h)
set_option maxRecDepth 100000 in
set_option maxHeartbeats 4000000 in
theorem ctX12_wayFrom {l : Launch} {D : va_G} {cI cZ : ClassId} {ad : Nat → Nat} {v1 : Int32} {v2 : Int32} {v3 : Int32} {σ : St} {res : (Int32 × St)} (h : mX12_wayFrom v1 v2 v3 σ = some res) : Ci l yX12_wayFrom wsX12_wayFrom 3 65 D vwCl (tysM cI cZ) nwM (mkM cI cZ ad) ad 17 [.ref (ad 0), .int v1, .int v2, .int v3] σ res := by
  refine c_int (cc := cX12_wayFrom) (maxL := 10) (by decide) rfl (Nat.le_of_ble_eq_true rfl) fun a b hn K hR => ?_
  unfold mX12_wayFrom at h
  have K : KS (GM l 3 65 D cI cZ ad a b (w_A ad 17)) cX12_wayFrom RX12 wsX12_wayFrom (some .int) := K
  have hn : x_n (GM l 3 65 D cI cZ ad a b (w_A ad 17)) = 10 := hn
  refine k_sub [0, 1, 2, 3] rfl ?_
  refine k_bipush (x := (-9)) K dX12_wayFrom_0 (by decide) ?_
  refine k_istore (lv' := [(4, _), (0, _), (1, _), (2, _), (3, _)]) K dX12_wayFrom_2 (by rw [hn]; decide) rfl ?_
  refine k_aload_n K dX12_wayFrom_4 1 rfl ?_
  refine k_get K 0 12 0 iX12_wayFrom_X12 (Nat.le_of_ble_eq_true rfl) ((mM_0 cI cZ ad) _) rfl (by decide) fX12_wayFrom_7 rfl dX12_wayFrom_5 ?_
  refine k_iconst (x := 1) K dX12_wayFrom_8 (by decide) ?_
  refine k_iload_n K dX12_wayFrom_9 2 rfl ?_
  refine k_iadd K dX12_wayFrom_10 ?_
  obtain ⟨g1, h⟩ := gd_some h
  refine k_ild K 1 0 (Nat.le_of_ble_eq_true rfl) ((mM_1 cI cZ ad) _) rfl g1 dX12_wayFrom_11 ?_
  have h := lt_some h
  refine k_istore (lv' := [(5, _), (4, _), (0, _), (1, _), (2, _), (3, _)]) K dX12_wayFrom_12 (by rw [hn]; decide) rfl ?_
  refine k_iconst (x := 0) K dX12_wayFrom_14 (by decide) ?_
  refine k_istore (lv' := [(6, _), (5, _), (4, _), (0, _), (1, _), (2, _), (3, _)]) K dX12_wayFrom_15 (by rw [hn]; decide) rfl ?_
  exact k_sub [3, 4, 5, 6, 2, 1, 0] rfl (wX12_wayFrom_17 K hn hR FU _ _ _ _ _ _ _ h)
-- X12_roll (4, 94)
theorem iX12_roll_X12 : ∀ w ∈ wsX120, w ∈ wsX12_roll := fun _ h => List.mem_cons_of_mem _ (List.mem_append_right _ h)
theorem fX12_roll_23 : Cond.fieldLink RX12 23 "SlopeCoinsModel" "gratings" "[I" ∈ wsX12_roll := by decide +kernel
theorem fX12_roll_190 : Cond.fieldLink RX12 190 "SlopeCoinsModel" "steps" "I" ∈ wsX12_roll := by decide +kernel
theorem fX12_roll_193 : Cond.fieldLink RX12 193 "SlopeCoinsModel" "past" "I" ∈ wsX12_roll := by decide +kernel
theorem fX12_roll_200 : Cond.fieldLink RX12 200 "SlopeCoinsModel" "ended" "I" ∈ wsX12_roll := by decide +kernel
set_option maxRecDepth 100000 in
set_option maxHeartbeats 4000000 in
theorem wX12_roll_122 {l : Launch} {D : va_G} {cI cZ : ClassId} {ad : Nat → Nat} {a : Program × Env × State × MethodId} {b : Array Value × List Frame × Method × Code × (State → Prop) × Nat} {A : Nat → Prop} (K : KS (GM l 4 94 D cI cZ ad a b A) cX12_roll RX12 wsX12_roll none) (hn : x_n (GM l 4 94 D cI cZ ad a b A) = 7) {res : (Int32 × St)} (hR : HRv (GM l 4 94 D cI cZ ad a b A) cX12_roll res) : ∀ (v4 : Int32), ∀ (σ : St), mX12_roll_122 v4 σ = some res → Wk (GM l 4 94 D cI cZ ad a b A) 122 [(0, .ref (ad 0)), (4, .int v4)] [] σ := by
  intro v4 σ h
  unfold mX12_roll_122 at h
  refine k_aload_n K dX12_roll_122 0 rfl ?_
  refine k_iload K dX12_roll_123 1 rfl ?_
  refine k_bipush (x := 100) K dX12_roll_125 (by decide) ?_
  refine k_iadd K dX12_roll_127 ?_
  have h := lt_some h
  refine k_putI K 0 12 32 tyX12 tyX12_ok nmX12 iX12_roll_X12 (Nat.le_of_ble_eq_true rfl) ((mM_0 cI cZ ad) _) rfl (by decide) fX12_roll_200 rfl (by decide +kernel) (Nat.le_of_ble_eq_true rfl) (pM_0_32 cI cZ ad _ _) dX12_roll_128 ?_
  exact ret_v hR h dX12_roll_131
set_option maxRecDepth 100000 in
set_option maxHeartbeats 4000000 in
theorem wX12_roll_117 {l : Launch} {D : va_G} {cI cZ : ClassId} {ad : Nat → Nat} {a : Program × Env × State × MethodId} {b : Array Value × List Frame × Method × Code × (State → Prop) × Nat} {A : Nat → Prop} {k122 : Int32 → St → Option (Int32 × St)} {rc : Int32 → Int32 → Int32 → Int32 → Int32 → St → Option (Int32 × St)} (K : KS (GM l 4 94 D cI cZ ad a b A) cX12_roll RX12 wsX12_roll none) (hn : x_n (GM l 4 94 D cI cZ ad a b A) = 7) {res : (Int32 × St)} (hR : HRv (GM l 4 94 D cI cZ ad a b A) cX12_roll res) (hk122 : ∀ (v4 : Int32) (σ : St), k122 v4 σ = some res → Wk (GM l 4 94 D cI cZ ad a b A) 122 [(0, .ref (ad 0)), (4, .int v4)] [] σ) (hrc : ∀ (v1 : Int32) (v2 : Int32) (v4 : Int32) (v5 : Int32) (v6 : Int32) (σ : St), rc v1 v2 v4 v5 v6 σ = some res → Wk (GM l 4 94 D cI cZ ad a b A) 38 [(0, .ref (ad 0)), (1, .int v1), (2, .int v2), (4, .int v4), (5, .int v5), (6, .int v6)] [] σ) : ∀ (v1 : Int32), ∀ (v2 : Int32), ∀ (v4 : Int32), ∀ (v5 : Int32), ∀ (t0 : Int32), ∀ (σ : St), mX12_roll_117 k122 rc v1 v2 v4 v5 t0 σ = some res → Wk (GM l 4 94 D cI cZ ad a b A) 117 [(0, .ref (ad 0)), (1, .int v1), (2, .int v2), (4, .int v4), (5, .int v5)] [.int t0] σ := by
  intro v1 v2 v4 v5 t0 σ h
  unfold mX12_roll_117 at h
  refine k_istore (lv' := [(6, _), (0, _), (1, _), (2, _), (4, _), (5, _)]) K dX12_roll_117 (by rw [hn]; decide) rfl ?_
  refine k_goto (tgt := 38) K dX12_roll_119 (by decide) ?_
  exact k_sub [1, 2, 3, 4, 5, 0] rfl (hrc _ _ _ _ _ _ h)
set_option maxRecDepth 100000 in
set_option maxHeartbeats 4000000 in
theorem wX12_roll_38 {l : Launch} {D : va_G} {cI cZ : ClassId} {ad : Nat → Nat} {a : Program × Env × State × MethodId} {b : Array Value × List Frame × Method × Code × (State → Prop) × Nat} {A : Nat → Prop} {k122 : Int32 → St → Option (Int32 × St)} (K : KS (GM l 4 94 D cI cZ ad a b A) cX12_roll RX12 wsX12_roll none) (hn : x_n (GM l 4 94 D cI cZ ad a b A) = 7) {res : (Int32 × St)} (hR : HRv (GM l 4 94 D cI cZ ad a b A) cX12_roll res) (hk122 : ∀ (v4 : Int32) (σ : St), k122 v4 σ = some res → Wk (GM l 4 94 D cI cZ ad a b A) 122 [(0, .ref (ad 0)), (4, .int v4)] [] σ) : ∀ (n : Nat) (v1 : Int32) (v2 : Int32) (v4 : Int32) (v5 : Int32) (v6 : Int32) (σ : St), mX12_roll_38 k122 n v1 v2 v4 v5 v6 σ = some res → Wk (GM l 4 94 D cI cZ ad a b A) 38 [(0, .ref (ad 0)), (1, .int v1), (2, .int v2), (4, .int v4), (5, .int v5), (6, .int v6)] [] σ := by
  intro n
  induction n with
  | zero => intro v1 v2 v4 v5 v6 σ h; cases h
  | succ n ih =>
    intro v1 v2 v4 v5 v6 σ h
    unfold mX12_roll_38 at h
    refine k_iload K dX12_roll_38 5 rfl ?_
    refine k_if_ne (tgt := 122) K dX12_roll_40 (by decide) (fun q => ?_) (fun q => ?_)
    · have h := if_f q h
      exact k_sub [0, 3] rfl (hk122 _ _ h)
    · have h := if_t q h
      refine k_aload_n K dX12_roll_43 0 rfl ?_
      refine k_iload K dX12_roll_44 3 rfl ?_
      refine k_iload K dX12_roll_46 4 rfl ?_
      refine k_iload_n K dX12_roll_48 2 rfl ?_
      obtain ⟨⟨r5, s6⟩, e7, h⟩ := bd_some h
      dsimp only at h
      refine k_callVi K 0 12 (Nat.le_of_ble_eq_true rfl) ((mM_0 cI cZ ad) _) rfl (ctX12_wayFrom e7) (cwV 3 K.ts gX12_roll_X12_wayFrom rfl rfl rfl hVX12_wayFrom ⟨Nat.le_of_ble_eq_true rfl, Nat.le_of_ble_eq_true rfl⟩) rfl rfl (Nat.le_of_ble_eq_true rfl) dX12_roll_49 ?_
      refine k_istore (lv' := [(5, _), (0, _), (1, _), (2, _), (4, _), (6, _)]) K dX12_roll_52 (by rw [hn]; decide) rfl ?_
      refine k_iload K dX12_roll_54 0 rfl ?_
      refine k_bipush (x := (-9)) K dX12_roll_56 (by decide) ?_
      refine k_icmp_ne (tgt := 68) K dX12_roll_58 (by decide) (fun q => ?_) (fun q => ?_)
      · have h := if_f q h
        refine k_aload_n K dX12_roll_68 1 rfl ?_
        refine k_iload K dX12_roll_69 4 rfl ?_
        refine k_iload K dX12_roll_71 0 rfl ?_
        obtain ⟨⟨r8, s9⟩, e10, h⟩ := bd_some h
        dsimp only at h
        refine k_callVi K 0 12 (Nat.le_of_ble_eq_true rfl) ((mM_0 cI cZ ad) _) rfl (ctX12_beside e10) (cwV 2 K.ts gX12_roll_X12_beside rfl rfl rfl hVX12_beside ⟨Nat.le_of_ble_eq_true rfl, Nat.le_of_ble_eq_true rfl⟩) rfl rfl (Nat.le_of_ble_eq_true rfl) dX12_roll_73 ?_
        refine k_istore (lv' := [(4, _), (5, _), (0, _), (1, _), (2, _), (6, _)]) K dX12_roll_76 (by rw [hn]; decide) rfl ?_
        refine k_aload_n K dX12_roll_78 2 rfl ?_
        refine k_dup K dX12_roll_79 rfl ?_
        refine k_get K 0 12 33 iX12_roll_X12 (Nat.le_of_ble_eq_true rfl) ((mM_0 cI cZ ad) _) rfl (by decide) fX12_roll_190 rfl dX12_roll_80 ?_
        refine k_iconst (x := 1) K dX12_roll_83 (by decide) ?_
        refine k_iadd K dX12_roll_84 ?_
        have h := lt_some h
        refine k_putI K 0 12 33 tyX12 tyX12_ok nmX12 iX12_roll_X12 (Nat.le_of_ble_eq_true rfl) ((mM_0 cI cZ ad) _) rfl (by decide) fX12_roll_190 rfl (by decide +kernel) (Nat.le_of_ble_eq_true rfl) (pM_0_33 cI cZ ad _ _) dX12_roll_85 ?_
        refine k_aload_n K dX12_roll_88 2 rfl ?_
        refine k_dup K dX12_roll_89 rfl ?_
        refine k_get K 0 12 34 iX12_roll_X12 (Nat.le_of_ble_eq_true rfl) ((mM_0 cI cZ ad) _) rfl (by decide) fX12_roll_193 rfl dX12_roll_90 ?_
        refine k_iconst (x := 1) K dX12_roll_93 (by decide) ?_
        refine k_iload K dX12_roll_94 0 rfl ?_
        refine k_ishl K dX12_roll_96 ?_
        refine k_ior K dX12_roll_97 ?_
        have h := lt_some h
        refine k_putI K 0 12 34 tyX12 tyX12_ok nmX12 iX12_roll_X12 (Nat.le_of_ble_eq_true rfl) ((mM_0 cI cZ ad) _) rfl (by decide) fX12_roll_193 rfl (by decide +kernel) (Nat.le_of_ble_eq_true rfl) (pM_0_34 cI cZ ad _ _) dX12_roll_98 ?_
        refine k_aload_n K dX12_roll_101 2 rfl ?_
        refine k_get K 0 12 7 iX12_roll_X12 (Nat.le_of_ble_eq_true rfl) ((mM_0 cI cZ ad) _) rfl (by decide) fX12_roll_23 rfl dX12_roll_102 ?_
        refine k_iload K dX12_roll_105 0 rfl ?_
        obtain ⟨g13, h⟩ := gd_some h
        refine k_ild K 5 0 (Nat.le_of_ble_eq_true rfl) ((mM_5 cI cZ ad) _) rfl g13 dX12_roll_107 ?_
        refine k_iload_n K dX12_roll_108 3 rfl ?_
        refine k_icmp_lt (tgt := 116) K dX12_roll_109 (by decide) (fun q => ?_) (fun q => ?_)
        · have h := if_t q h
          refine k_iconst (x := 0) K dX12_roll_116 (by decide) ?_
          exact k_sub [2, 3, 4, 0, 1] rfl (wX12_roll_117 K hn hR hk122 ih _ _ _ _ _ _ h)
        · have h := if_f q h
          refine k_iconst (x := 1) K dX12_roll_112 (by decide) ?_
          refine k_goto (tgt := 117) K dX12_roll_113 (by decide) ?_
          exact k_sub [2, 3, 4, 0, 1] rfl (wX12_roll_117 K hn hR hk122 ih _ _ _ _ _ _ h)
      · have h := if_t q h
        refine k_aload_n K dX12_roll_61 1 rfl ?_
        refine k_iload K dX12_roll_62 4 rfl ?_
        have h := lt_some h
        refine k_putI K 0 12 32 tyX12 tyX12_ok nmX12 iX12_roll_X12 (Nat.le_of_ble_eq_true rfl) ((mM_0 cI cZ ad) _) rfl (by decide) fX12_roll_200 rfl (by decide +kernel) (Nat.le_of_ble_eq_true rfl) (pM_0_32 cI cZ ad _ _) dX12_roll_64 ?_
        exact ret_v hR h dX12_roll_67
set_option maxRecDepth 100000 in
set_option maxHeartbeats 4000000 in
theorem wX12_roll_36 {l : Launch} {D : va_G} {cI cZ : ClassId} {ad : Nat → Nat} {a : Program × Env × State × MethodId} {b : Array Value × List Frame × Method × Code × (State → Prop) × Nat} {A : Nat → Prop} (K : KS (GM l 4 94 D cI cZ ad a b A) cX12_roll RX12 wsX12_roll none) (hn : x_n (GM l 4 94 D cI cZ ad a b A) = 7) {res : (Int32 × St)} (hR : HRv (GM l 4 94 D cI cZ ad a b A) cX12_roll res) : ∀ (v1 : Int32), ∀ (v2 : Int32), ∀ (v4 : Int32), ∀ (v5 : Int32), ∀ (t0 : Int32), ∀ (σ : St), mX12_roll_36 v1 v2 v4 v5 t0 σ = some res → Wk (GM l 4 94 D cI cZ ad a b A) 36 [(0, .ref (ad 0)), (1, .int v1), (2, .int v2), (4, .int v4), (5, .int v5)] [.int t0] σ := by
  intro v1 v2 v4 v5 t0 σ h
  unfold mX12_roll_36 at h
  refine k_istore (lv' := [(6, _), (0, _), (1, _), (2, _), (4, _), (5, _)]) K dX12_roll_36 (by rw [hn]; decide) rfl ?_
  exact k_sub [1, 2, 3, 4, 5, 0] rfl (wX12_roll_38 K hn hR (fun v4 σ h => wX12_roll_122 K hn hR v4 σ h) FU _ _ _ _ _ _ h)
set_option maxRecDepth 100000 in
set_option maxHeartbeats 4000000 in
theorem ctX12_roll {l : Launch} {D : va_G} {cI cZ : ClassId} {ad : Nat → Nat} {v1 : Int32} {v2 : Int32} {v3 : Int32} {σ : St} {res : (Int32 × St)} (h : mX12_roll v1 v2 v3 σ = some res) : Cv l yX12_roll wsX12_roll 4 94 D vwCl (tysM cI cZ) nwM (mkM cI cZ ad) ad 17 [.ref (ad 0), .int v1, .int v2, .int v3] σ res := by
  refine c_void (cc := cX12_roll) (maxL := 7) (by decide) rfl (Nat.le_of_ble_eq_true rfl) fun a b hn K hR => ?_
  unfold mX12_roll at h
  have K : KS (GM l 4 94 D cI cZ ad a b (w_A ad 17)) cX12_roll RX12 wsX12_roll none := K
  have hn : x_n (GM l 4 94 D cI cZ ad a b (w_A ad 17)) = 7 := hn
  refine k_sub [0, 1, 2, 3] rfl ?_
  refine k_iload_n K dX12_roll_0 3 rfl ?_
  refine k_istore (lv' := [(4, _), (0, _), (1, _), (2, _), (3, _)]) K dX12_roll_1 (by rw [hn]; decide) rfl ?_
  refine k_bipush (x := (-9)) K dX12_roll_3 (by decide) ?_
  refine k_istore (lv' := [(5, _), (4, _), (0, _), (1, _), (2, _), (3, _)]) K dX12_roll_5 (by rw [hn]; decide) rfl ?_
  refine k_aload_n K dX12_roll_7 2 rfl ?_
  refine k_iconst (x := 0) K dX12_roll_8 (by decide) ?_
  have h := lt_some h
  refine k_putI K 0 12 33 tyX12 tyX12_ok nmX12 iX12_roll_X12 (Nat.le_of_ble_eq_true rfl) ((mM_0 cI cZ ad) _) rfl (by decide) fX12_roll_190 rfl (by decide +kernel) (Nat.le_of_ble_eq_true rfl) (pM_0_33 cI cZ ad _ _) dX12_roll_9 ?_
  refine k_aload_n K dX12_roll_12 2 rfl ?_
  refine k_iconst (x := 1) K dX12_roll_13 (by decide) ?_
  refine k_iload K dX12_roll_14 1 rfl ?_
  refine k_ishl K dX12_roll_16 ?_
  have h := lt_some h
  refine k_putI K 0 12 34 tyX12 tyX12_ok nmX12 iX12_roll_X12 (Nat.le_of_ble_eq_true rfl) ((mM_0 cI cZ ad) _) rfl (by decide) fX12_roll_193 rfl (by decide +kernel) (Nat.le_of_ble_eq_true rfl) (pM_0_34 cI cZ ad _ _) dX12_roll_17 ?_
  refine k_aload_n K dX12_roll_20 2 rfl ?_
  refine k_get K 0 12 7 iX12_roll_X12 (Nat.le_of_ble_eq_true rfl) ((mM_0 cI cZ ad) _) rfl (by decide) fX12_roll_23 rfl dX12_roll_21 ?_
  refine k_iload K dX12_roll_24 1 rfl ?_
  obtain ⟨g3, h⟩ := gd_some h
  refine k_ild K 5 0 (Nat.le_of_ble_eq_true rfl) ((mM_5 cI cZ ad) _) rfl g3 dX12_roll_26 ?_
  refine k_iload_n K dX12_roll_27 3 rfl ?_
  refine k_icmp_lt (tgt := 35) K dX12_roll_28 (by decide) (fun q => ?_) (fun q => ?_)
  · have h := if_t q h
    refine k_iconst (x := 0) K dX12_roll_35 (by decide) ?_
    exact k_sub [2, 3, 4, 1, 0] rfl (wX12_roll_36 K hn hR _ _ _ _ _ _ h)
  · have h := if_f q h
    refine k_iconst (x := 1) K dX12_roll_31 (by decide) ?_
    refine k_goto (tgt := 36) K dX12_roll_32 (by decide) ?_
    exact k_sub [2, 3, 4, 1, 0] rfl (wX12_roll_36 K hn hR _ _ _ _ _ _ h)
-- X12_rollKind (5, 120)
theorem iX12_rollKind_X12 : ∀ w ∈ wsX120, w ∈ wsX12_rollKind := fun _ h => List.mem_cons_of_mem _ (List.mem_append_right _ h)
theorem fX12_rollKind_29 : Cond.fieldLink RX12 29 "SlopeCoinsModel" "sizes" "[I" ∈ wsX12_rollKind := by decide +kernel
theorem fX12_rollKind_35 : Cond.fieldLink RX12 35 "SlopeCoinsModel" "forged" "[I" ∈ wsX12_rollKind := by decide +kernel
set_option maxRecDepth 100000 in
set_option maxHeartbeats 4000000 in
theorem ctX12_rollKind {l : Launch} {D : va_G} {cI cZ : ClassId} {ad : Nat → Nat} {v1 : Int32} {v2 : Int32} {σ : St} {res : (Int32 × St)} (h : mX12_rollKind v1 v2 σ = some res) : Cv l yX12_rollKind wsX12_rollKind 5 120 D vwCl (tysM cI cZ) nwM (mkM cI cZ ad) ad 17 [.ref (ad 0), .int v1, .int v2] σ res := by
  refine c_void (cc := cX12_rollKind) (maxL := 3) (by decide) rfl (Nat.le_of_ble_eq_true rfl) fun a b hn K hR => ?_
  unfold mX12_rollKind at h
  have K : KS (GM l 5 120 D cI cZ ad a b (w_A ad 17)) cX12_rollKind RX12 wsX12_rollKind none := K
  have hn : x_n (GM l 5 120 D cI cZ ad a b (w_A ad 17)) = 3 := hn
  refine k_sub [0, 1, 2] rfl ?_
  refine k_aload_n K dX12_rollKind_0 0 rfl ?_
  refine k_aload_n K dX12_rollKind_1 0 rfl ?_
  refine k_get K 0 12 11 iX12_rollKind_X12 (Nat.le_of_ble_eq_true rfl) ((mM_0 cI cZ ad) _) rfl (by decide) fX12_rollKind_29 rfl dX12_rollKind_2 ?_
  refine k_iload_n K dX12_rollKind_5 1 rfl ?_
  obtain ⟨g1, h⟩ := gd_some h
  refine k_ild K 7 0 (Nat.le_of_ble_eq_true rfl) ((mM_7 cI cZ ad) _) rfl g1 dX12_rollKind_6 ?_
  refine k_aload_n K dX12_rollKind_7 0 rfl ?_
  refine k_get K 0 12 13 iX12_rollKind_X12 (Nat.le_of_ble_eq_true rfl) ((mM_0 cI cZ ad) _) rfl (by decide) fX12_rollKind_35 rfl dX12_rollKind_8 ?_
  refine k_iload_n K dX12_rollKind_11 1 rfl ?_
  obtain ⟨g2, h⟩ := gd_some h
  refine k_ild K 9 0 (Nat.le_of_ble_eq_true rfl) ((mM_9 cI cZ ad) _) rfl g2 dX12_rollKind_12 ?_
  refine k_iload_n K dX12_rollKind_13 2 rfl ?_
  obtain ⟨⟨r3, s4⟩, e5, h⟩ := bd_some h
  dsimp only at h
  refine k_callVv K 0 12 (Nat.le_of_ble_eq_true rfl) ((mM_0 cI cZ ad) _) rfl (ctX12_roll e5) (cwV 3 K.ts gX12_rollKind_X12_roll rfl rfl rfl hVX12_roll ⟨Nat.le_of_ble_eq_true rfl, Nat.le_of_ble_eq_true rfl⟩) rfl rfl (Nat.le_of_ble_eq_true rfl) dX12_rollKind_14 ?_
  exact ret_v hR h dX12_rollKind_17
-- X12_toldEnd (1, 21)
theorem iX12_toldEnd_X12 : ∀ w ∈ wsX120, w ∈ wsX12_toldEnd := fun _ h => List.mem_cons_of_mem _ (List.mem_append_right _ h)
theorem fX12_toldEnd_200 : Cond.fieldLink RX12 200 "SlopeCoinsModel" "ended" "I" ∈ wsX12_toldEnd := by decide +kernel
set_option maxRecDepth 100000 in
set_option maxHeartbeats 4000000 in
theorem ctX12_toldEnd {l : Launch} {D : va_G} {cI cZ : ClassId} {ad : Nat → Nat} {σ : St} {res : (Int32 × St)} (h : mX12_toldEnd σ = some res) : Ci l yX12_toldEnd wsX12_toldEnd 1 21 D vwCl (tysM cI cZ) nwM (mkM cI cZ ad) ad 17 [.ref (ad 0)] σ res := by
  refine c_int (cc := cX12_toldEnd) (maxL := 1) (by decide) rfl (Nat.le_of_ble_eq_true rfl) fun a b hn K hR => ?_
  unfold mX12_toldEnd at h
  have K : KS (GM l 1 21 D cI cZ ad a b (w_A ad 17)) cX12_toldEnd RX12 wsX12_toldEnd (some .int) := K
  have hn : x_n (GM l 1 21 D cI cZ ad a b (w_A ad 17)) = 1 := hn
  refine k_sub [0] rfl ?_
  refine k_aload_n K dX12_toldEnd_0 0 rfl ?_
  refine k_get K 0 12 32 iX12_toldEnd_X12 (Nat.le_of_ble_eq_true rfl) ((mM_0 cI cZ ad) _) rfl (by decide) fX12_toldEnd_200 rfl dX12_toldEnd_1 ?_
  refine k_bipush (x := 100) K dX12_toldEnd_4 (by decide) ?_
  refine k_icmp_lt (tgt := 26) K dX12_toldEnd_6 (by decide) (fun q => ?_) (fun q => ?_)
  · have h := if_t q h
    refine k_aload_n K dX12_toldEnd_26 0 rfl ?_
    refine k_aload_n K dX12_toldEnd_27 0 rfl ?_
    refine k_get K 0 12 32 iX12_toldEnd_X12 (Nat.le_of_ble_eq_true rfl) ((mM_0 cI cZ ad) _) rfl (by decide) fX12_toldEnd_200 rfl dX12_toldEnd_28 ?_
    obtain ⟨⟨r1, s2⟩, e3, h⟩ := bd_some h
    dsimp only at h
    refine k_callVi K 0 12 (Nat.le_of_ble_eq_true rfl) ((mM_0 cI cZ ad) _) rfl (ctX12_pairOf e3) (cwV 1 K.ts gX12_toldEnd_X12_pairOf rfl rfl rfl hVX12_pairOf ⟨Nat.le_of_ble_eq_true rfl, Nat.le_of_ble_eq_true rfl⟩) rfl rfl (Nat.le_of_ble_eq_true rfl) dX12_toldEnd_31 ?_
    exact ret_i hR h dX12_toldEnd_34 trivial
  · have h := if_f q h
    refine k_bipush (x := 100) K dX12_toldEnd_9 (by decide) ?_
    refine k_aload_n K dX12_toldEnd_11 0 rfl ?_
    refine k_aload_n K dX12_toldEnd_12 0 rfl ?_
    refine k_get K 0 12 32 iX12_toldEnd_X12 (Nat.le_of_ble_eq_true rfl) ((mM_0 cI cZ ad) _) rfl (by decide) fX12_toldEnd_200 rfl dX12_toldEnd_13 ?_
    refine k_bipush (x := 100) K dX12_toldEnd_16 (by decide) ?_
    refine k_isub K dX12_toldEnd_18 ?_
    obtain ⟨⟨r4, s5⟩, e6, h⟩ := bd_some h
    dsimp only at h
    refine k_callVi K 0 12 (Nat.le_of_ble_eq_true rfl) ((mM_0 cI cZ ad) _) rfl (ctX12_pairOf e6) (cwV 1 K.ts gX12_toldEnd_X12_pairOf rfl rfl rfl hVX12_pairOf ⟨Nat.le_of_ble_eq_true rfl, Nat.le_of_ble_eq_true rfl⟩) rfl rfl (Nat.le_of_ble_eq_true rfl) dX12_toldEnd_19 ?_
    refine k_iadd K dX12_toldEnd_22 ?_
    refine k_goto (tgt := 34) K dX12_toldEnd_23 (by decide) ?_
    exact ret_i hR h dX12_toldEnd_34 trivial
-- X12_endOf (6, 142)
theorem iX12_endOf_X12 : ∀ w ∈ wsX120, w ∈ wsX12_endOf := fun _ h => List.mem_cons_of_mem _ (List.mem_append_right _ h)
theorem fX12_endOf_200 : Cond.fieldLink RX12 200 "SlopeCoinsModel" "ended" "I" ∈ wsX12_endOf := by decide +kernel
set_option maxRecDepth 100000 in
set_option maxHeartbeats 4000000 in
theorem ctX12_endOf {l : Launch} {D : va_G} {cI cZ : ClassId} {ad : Nat → Nat} {v1 : Int32} {v2 : Int32} {σ : St} {res : (Int32 × St)} (h : mX12_endOf v1 v2 σ = some res) : Ci l yX12_endOf wsX12_endOf 6 142 D vwCl (tysM cI cZ) nwM (mkM cI cZ ad) ad 17 [.ref (ad 0), .int v1, .int v2] σ res := by
  refine c_int (cc := cX12_endOf) (maxL := 3) (by decide) rfl (Nat.le_of_ble_eq_true rfl) fun a b hn K hR => ?_
  unfold mX12_endOf at h
  have K : KS (GM l 6 142 D cI cZ ad a b (w_A ad 17)) cX12_endOf RX12 wsX12_endOf (some .int) := K
  have hn : x_n (GM l 6 142 D cI cZ ad a b (w_A ad 17)) = 3 := hn
  refine k_sub [0, 1, 2] rfl ?_
  refine k_aload_n K dX12_endOf_0 0 rfl ?_
  refine k_iload_n K dX12_endOf_1 1 rfl ?_
  refine k_iload_n K dX12_endOf_2 2 rfl ?_
  obtain ⟨⟨r1, s2⟩, e3, h⟩ := bd_some h
  dsimp only at h
  refine k_callVv K 0 12 (Nat.le_of_ble_eq_true rfl) ((mM_0 cI cZ ad) _) rfl (ctX12_rollKind e3) (cwV 2 K.ts gX12_endOf_X12_rollKind rfl rfl rfl hVX12_rollKind ⟨Nat.le_of_ble_eq_true rfl, Nat.le_of_ble_eq_true rfl⟩) rfl rfl (Nat.le_of_ble_eq_true rfl) dX12_endOf_3 ?_
  refine k_aload_n K dX12_endOf_6 0 rfl ?_
  refine k_get K 0 12 32 iX12_endOf_X12 (Nat.le_of_ble_eq_true rfl) ((mM_0 cI cZ ad) _) rfl (by decide) fX12_endOf_200 rfl dX12_endOf_7 ?_
  refine k_bipush (x := 100) K dX12_endOf_10 (by decide) ?_
  refine k_irem K dX12_endOf_12 (by decide) ?_
  exact ret_i hR h dX12_endOf_13 trivial
-- X12_cell (4, 88)
theorem iX12_cell_X12 : ∀ w ∈ wsX120, w ∈ wsX12_cell := fun _ h => List.mem_cons_of_mem _ (List.mem_append_right _ h)
theorem fX12_cell_7 : Cond.fieldLink RX12 7 "SlopeCoinsModel" "row" "[I" ∈ wsX12_cell := by decide +kernel
theorem fX12_cell_23 : Cond.fieldLink RX12 23 "SlopeCoinsModel" "gratings" "[I" ∈ wsX12_cell := by decide +kernel
set_option maxRecDepth 100000 in
set_option maxHeartbeats 4000000 in
theorem ctX12_cell {l : Launch} {D : va_G} {cI cZ : ClassId} {ad : Nat → Nat} {v1 : Int32} {v2 : Int32} {v3 : Int32} {σ : St} {res : (Int32 × St)} (h : mX12_cell v1 v2 v3 σ = some res) : Ci l yX12_cell wsX12_cell 4 88 D vwCl (tysM cI cZ) nwM (mkM cI cZ ad) ad 17 [.ref (ad 0), .int v1, .int v2, .int v3] σ res := by
  refine c_int (cc := cX12_cell) (maxL := 5) (by decide) rfl (Nat.le_of_ble_eq_true rfl) fun a b hn K hR => ?_
  unfold mX12_cell at h
  have K : KS (GM l 4 88 D cI cZ ad a b (w_A ad 17)) cX12_cell RX12 wsX12_cell (some .int) := K
  have hn : x_n (GM l 4 88 D cI cZ ad a b (w_A ad 17)) = 5 := hn
  refine k_sub [0, 1, 2, 3] rfl ?_
  refine k_aload_n K dX12_cell_0 0 rfl ?_
  refine k_iload_n K dX12_cell_1 1 rfl ?_
  refine k_iload_n K dX12_cell_2 2 rfl ?_
  obtain ⟨⟨r1, s2⟩, e3, h⟩ := bd_some h
  dsimp only at h
  refine k_callVi K 0 12 (Nat.le_of_ble_eq_true rfl) ((mM_0 cI cZ ad) _) rfl (ctX12_isCell e3) (cwV 2 K.ts gX12_cell_X12_isCell rfl rfl rfl hVX12_isCell ⟨Nat.le_of_ble_eq_true rfl, Nat.le_of_ble_eq_true rfl⟩) rfl rfl (Nat.le_of_ble_eq_true rfl) dX12_cell_3 ?_
  refine k_if_ne (tgt := 11) K dX12_cell_6 (by decide) (fun q => ?_) (fun q => ?_)
  · have h := if_f q h
    refine k_aload_n K dX12_cell_11 0 rfl ?_
    refine k_iload_n K dX12_cell_12 1 rfl ?_
    refine k_iload_n K dX12_cell_13 2 rfl ?_
    obtain ⟨⟨r4, s5⟩, e6, h⟩ := bd_some h
    dsimp only at h
    refine k_callVi K 0 12 (Nat.le_of_ble_eq_true rfl) ((mM_0 cI cZ ad) _) rfl (ctX12_bit e6) (cwV 2 K.ts gX12_cell_X12_bit rfl rfl rfl hVX12_bit ⟨Nat.le_of_ble_eq_true rfl, Nat.le_of_ble_eq_true rfl⟩) rfl rfl (Nat.le_of_ble_eq_true rfl) dX12_cell_14 ?_
    refine k_istore (lv' := [(4, _), (0, _), (1, _), (2, _), (3, _)]) K dX12_cell_17 (by rw [hn]; decide) rfl ?_
    refine k_iload_n K dX12_cell_19 4 rfl ?_
    refine k_case (y := 0) (fun q0 => ?_) (fun q0 => ?_)
    · have h := if_t q0 h
      refine k_tableIn (off := 44) (tgt := 64) K dX12_cell_20 (by rw [q0]; decide) (by rw [q0]; decide) (by rw [q0]; rfl) (by decide) ?_
      refine k_aload_n K dX12_cell_64 1 rfl ?_
      refine k_get K 0 12 0 iX12_cell_X12 (Nat.le_of_ble_eq_true rfl) ((mM_0 cI cZ ad) _) rfl (by decide) fX12_cell_7 rfl dX12_cell_65 ?_
      refine k_iconst (x := 1) K dX12_cell_68 (by decide) ?_
      refine k_iload K dX12_cell_69 0 rfl ?_
      refine k_iadd K dX12_cell_71 ?_
      obtain ⟨g7, h⟩ := gd_some h
      refine k_ild K 1 0 (Nat.le_of_ble_eq_true rfl) ((mM_1 cI cZ ad) _) rfl g7 dX12_cell_72 ?_
      exact ret_i hR h dX12_cell_73 trivial
    · have h := if_f q0 h
      refine k_case (y := 1) (fun q1 => ?_) (fun q1 => ?_)
      · have h := if_t q1 h
        refine k_tableIn (off := 54) (tgt := 74) K dX12_cell_20 (by rw [q1]; decide) (by rw [q1]; decide) (by rw [q1]; rfl) (by decide) ?_
        refine k_aload_n K dX12_cell_74 1 rfl ?_
        refine k_get K 0 12 7 iX12_cell_X12 (Nat.le_of_ble_eq_true rfl) ((mM_0 cI cZ ad) _) rfl (by decide) fX12_cell_23 rfl dX12_cell_75 ?_
        refine k_iload K dX12_cell_78 0 rfl ?_
        obtain ⟨g8, h⟩ := gd_some h
        refine k_ild K 5 0 (Nat.le_of_ble_eq_true rfl) ((mM_5 cI cZ ad) _) rfl g8 dX12_cell_80 ?_
        exact ret_i hR h dX12_cell_81 trivial
      · have h := if_f q1 h
        refine k_case (y := 2) (fun q2 => ?_) (fun q2 => ?_)
        · have h := if_t q2 h
          refine k_tableIn (off := 62) (tgt := 82) K dX12_cell_20 (by rw [q2]; decide) (by rw [q2]; decide) (by rw [q2]; rfl) (by decide) ?_
          refine k_aload_n K dX12_cell_82 1 rfl ?_
          refine k_iload K dX12_cell_83 0 rfl ?_
          obtain ⟨⟨r9, s10⟩, e11, h⟩ := bd_some h
          dsimp only at h
          refine k_callVi K 0 12 (Nat.le_of_ble_eq_true rfl) ((mM_0 cI cZ ad) _) rfl (ctX12_liesOn e11) (cwV 1 K.ts gX12_cell_X12_liesOn rfl rfl rfl hVX12_liesOn ⟨Nat.le_of_ble_eq_true rfl, Nat.le_of_ble_eq_true rfl⟩) rfl rfl (Nat.le_of_ble_eq_true rfl) dX12_cell_85 ?_
          exact ret_i hR h dX12_cell_88 trivial
        · have h := if_f q2 h
          refine k_case (y := 3) (fun q3 => ?_) (fun q3 => ?_)
          · have h := if_t q3 h
            refine k_tableIn (off := 69) (tgt := 89) K dX12_cell_20 (by rw [q3]; decide) (by rw [q3]; decide) (by rw [q3]; rfl) (by decide) ?_
            refine k_aload_n K dX12_cell_89 1 rfl ?_
            refine k_get K 0 12 0 iX12_cell_X12 (Nat.le_of_ble_eq_true rfl) ((mM_0 cI cZ ad) _) rfl (by decide) fX12_cell_7 rfl dX12_cell_90 ?_
            refine k_bipush (x := 61) K dX12_cell_93 (by decide) ?_
            refine k_iload K dX12_cell_95 0 rfl ?_
            refine k_iadd K dX12_cell_97 ?_
            obtain ⟨g12, h⟩ := gd_some h
            refine k_ild K 1 0 (Nat.le_of_ble_eq_true rfl) ((mM_1 cI cZ ad) _) rfl g12 dX12_cell_98 ?_
            exact ret_i hR h dX12_cell_99 trivial
          · have h := if_f q3 h
            refine k_case (y := 4) (fun q4 => ?_) (fun q4 => ?_)
            · have h := if_t q4 h
              refine k_tableIn (off := 80) (tgt := 100) K dX12_cell_20 (by rw [q4]; decide) (by rw [q4]; decide) (by rw [q4]; rfl) (by decide) ?_
              refine k_aload_n K dX12_cell_100 1 rfl ?_
              refine k_get K 0 12 0 iX12_cell_X12 (Nat.le_of_ble_eq_true rfl) ((mM_0 cI cZ ad) _) rfl (by decide) fX12_cell_7 rfl dX12_cell_101 ?_
              refine k_bipush (x := 91) K dX12_cell_104 (by decide) ?_
              refine k_iload K dX12_cell_106 0 rfl ?_
              refine k_iadd K dX12_cell_108 ?_
              obtain ⟨g13, h⟩ := gd_some h
              refine k_ild K 1 0 (Nat.le_of_ble_eq_true rfl) ((mM_1 cI cZ ad) _) rfl g13 dX12_cell_109 ?_
              exact ret_i hR h dX12_cell_110 trivial
            · have h := if_f q4 h
              refine k_case (y := 5) (fun q5 => ?_) (fun q5 => ?_)
              · have h := if_t q5 h
                refine k_tableIn (off := 91) (tgt := 111) K dX12_cell_20 (by rw [q5]; decide) (by rw [q5]; decide) (by rw [q5]; rfl) (by decide) ?_
                refine k_aload_n K dX12_cell_111 1 rfl ?_
                refine k_get K 0 12 0 iX12_cell_X12 (Nat.le_of_ble_eq_true rfl) ((mM_0 cI cZ ad) _) rfl (by decide) fX12_cell_7 rfl dX12_cell_112 ?_
                refine k_bipush (x := 121) K dX12_cell_115 (by decide) ?_
                refine k_iload K dX12_cell_117 0 rfl ?_
                refine k_iadd K dX12_cell_119 ?_
                obtain ⟨g14, h⟩ := gd_some h
                refine k_ild K 1 0 (Nat.le_of_ble_eq_true rfl) ((mM_1 cI cZ ad) _) rfl g14 dX12_cell_120 ?_
                exact ret_i hR h dX12_cell_121 trivial
              · have h := if_f q5 h
                refine k_case (y := 6) (fun q6 => ?_) (fun q6 => ?_)
                · have h := if_t q6 h
                  refine k_tableIn (off := 102) (tgt := 122) K dX12_cell_20 (by rw [q6]; decide) (by rw [q6]; decide) (by rw [q6]; rfl) (by decide) ?_
                  refine k_aload_n K dX12_cell_122 1 rfl ?_
                  refine k_iload K dX12_cell_123 0 rfl ?_
                  obtain ⟨⟨r15, s16⟩, e17, h⟩ := bd_some h
                  dsimp only at h
                  refine k_callVi K 0 12 (Nat.le_of_ble_eq_true rfl) ((mM_0 cI cZ ad) _) rfl (ctX12_shutWays e17) (cwV 1 K.ts gX12_cell_X12_shutWays rfl rfl rfl hVX12_shutWays ⟨Nat.le_of_ble_eq_true rfl, Nat.le_of_ble_eq_true rfl⟩) rfl rfl (Nat.le_of_ble_eq_true rfl) dX12_cell_125 ?_
                  exact ret_i hR h dX12_cell_128 trivial
                · have h := if_f q6 h
                  refine k_tableOut (tgt := 129) K dX12_cell_20 (sw_out7 q0 q1 q2 q3 q4 q5 q6) (by decide) ?_
                  refine k_iconst (x := (-1)) K dX12_cell_129 (by decide) ?_
                  exact ret_i hR h dX12_cell_130 trivial
  · have h := if_t q h
    refine k_iconst (x := (-1)) K dX12_cell_9 (by decide) ?_
    exact ret_i hR h dX12_cell_10 trivial
-- X12_kind (2, 46)
theorem iX12_kind_X12 : ∀ w ∈ wsX120, w ∈ wsX12_kind := fun _ h => List.mem_cons_of_mem _ (List.mem_append_right _ h)
theorem fX12_kind_29 : Cond.fieldLink RX12 29 "SlopeCoinsModel" "sizes" "[I" ∈ wsX12_kind := by decide +kernel
theorem fX12_kind_32 : Cond.fieldLink RX12 32 "SlopeCoinsModel" "worths" "[I" ∈ wsX12_kind := by decide +kernel
theorem fX12_kind_35 : Cond.fieldLink RX12 35 "SlopeCoinsModel" "forged" "[I" ∈ wsX12_kind := by decide +kernel
set_option maxRecDepth 100000 in
set_option maxHeartbeats 4000000 in
theorem ctX12_kind {l : Launch} {D : va_G} {cI cZ : ClassId} {ad : Nat → Nat} {v1 : Int32} {v2 : Int32} {σ : St} {res : (Int32 × St)} (h : mX12_kind v1 v2 σ = some res) : Ci l yX12_kind wsX12_kind 2 46 D vwCl (tysM cI cZ) nwM (mkM cI cZ ad) ad 17 [.ref (ad 0), .int v1, .int v2] σ res := by
  refine c_int (cc := cX12_kind) (maxL := 3) (by decide) rfl (Nat.le_of_ble_eq_true rfl) fun a b hn K hR => ?_
  unfold mX12_kind at h
  have K : KS (GM l 2 46 D cI cZ ad a b (w_A ad 17)) cX12_kind RX12 wsX12_kind (some .int) := K
  have hn : x_n (GM l 2 46 D cI cZ ad a b (w_A ad 17)) = 3 := hn
  refine k_sub [0, 1, 2] rfl ?_
  refine k_aload_n K dX12_kind_0 0 rfl ?_
  refine k_iload_n K dX12_kind_1 1 rfl ?_
  obtain ⟨⟨r1, s2⟩, e3, h⟩ := bd_some h
  dsimp only at h
  refine k_callVi K 0 12 (Nat.le_of_ble_eq_true rfl) ((mM_0 cI cZ ad) _) rfl (ctX12_isKind e3) (cwV 1 K.ts gX12_kind_X12_isKind rfl rfl rfl hVX12_isKind ⟨Nat.le_of_ble_eq_true rfl, Nat.le_of_ble_eq_true rfl⟩) rfl rfl (Nat.le_of_ble_eq_true rfl) dX12_kind_2 ?_
  refine k_if_ne (tgt := 12) K dX12_kind_5 (by decide) (fun q => ?_) (fun q => ?_)
  · have h := if_f q h
    refine k_iload_n K dX12_kind_12 2 rfl ?_
    refine k_if_ne (tgt := 25) K dX12_kind_13 (by decide) (fun q => ?_) (fun q => ?_)
    · have h := if_f q h
      refine k_iload_n K dX12_kind_25 2 rfl ?_
      refine k_iconst (x := 1) K dX12_kind_26 (by decide) ?_
      refine k_icmp_ne (tgt := 39) K dX12_kind_27 (by decide) (fun q => ?_) (fun q => ?_)
      · have h := if_f q h
        refine k_iload_n K dX12_kind_39 2 rfl ?_
        refine k_iconst (x := 2) K dX12_kind_40 (by decide) ?_
        refine k_icmp_ne (tgt := 53) K dX12_kind_41 (by decide) (fun q => ?_) (fun q => ?_)
        · have h := if_f q h
          refine k_iconst (x := (-1)) K dX12_kind_53 (by decide) ?_
          exact ret_i hR h dX12_kind_54 trivial
        · have h := if_t q h
          refine k_aload_n K dX12_kind_44 0 rfl ?_
          refine k_get K 0 12 13 iX12_kind_X12 (Nat.le_of_ble_eq_true rfl) ((mM_0 cI cZ ad) _) rfl (by decide) fX12_kind_35 rfl dX12_kind_45 ?_
          refine k_iload_n K dX12_kind_48 1 rfl ?_
          obtain ⟨g4, h⟩ := gd_some h
          refine k_ild K 9 0 (Nat.le_of_ble_eq_true rfl) ((mM_9 cI cZ ad) _) rfl g4 dX12_kind_49 ?_
          refine k_goto (tgt := 54) K dX12_kind_50 (by decide) ?_
          exact ret_i hR h dX12_kind_54 trivial
      · have h := if_t q h
        refine k_aload_n K dX12_kind_30 0 rfl ?_
        refine k_get K 0 12 12 iX12_kind_X12 (Nat.le_of_ble_eq_true rfl) ((mM_0 cI cZ ad) _) rfl (by decide) fX12_kind_32 rfl dX12_kind_31 ?_
        refine k_iload_n K dX12_kind_34 1 rfl ?_
        obtain ⟨g5, h⟩ := gd_some h
        refine k_ild K 8 0 (Nat.le_of_ble_eq_true rfl) ((mM_8 cI cZ ad) _) rfl g5 dX12_kind_35 ?_
        refine k_goto (tgt := 54) K dX12_kind_36 (by decide) ?_
        exact ret_i hR h dX12_kind_54 trivial
    · have h := if_t q h
      refine k_aload_n K dX12_kind_16 0 rfl ?_
      refine k_get K 0 12 11 iX12_kind_X12 (Nat.le_of_ble_eq_true rfl) ((mM_0 cI cZ ad) _) rfl (by decide) fX12_kind_29 rfl dX12_kind_17 ?_
      refine k_iload_n K dX12_kind_20 1 rfl ?_
      obtain ⟨g6, h⟩ := gd_some h
      refine k_ild K 7 0 (Nat.le_of_ble_eq_true rfl) ((mM_7 cI cZ ad) _) rfl g6 dX12_kind_21 ?_
      refine k_goto (tgt := 54) K dX12_kind_22 (by decide) ?_
      exact ret_i hR h dX12_kind_54 trivial
  · have h := if_t q h
    refine k_iconst (x := (-1)) K dX12_kind_8 (by decide) ?_
    refine k_goto (tgt := 54) K dX12_kind_9 (by decide) ?_
    exact ret_i hR h dX12_kind_54 trivial
-- X12_keepPast (0, 0)
theorem iX12_keepPast_X12 : ∀ w ∈ wsX120, w ∈ wsX12_keepPast := fun _ h => List.mem_cons_of_mem _ (List.mem_append_right _ h)
theorem fX12_keepPast_7 : Cond.fieldLink RX12 7 "SlopeCoinsModel" "row" "[I" ∈ wsX12_keepPast := by decide +kernel
set_option maxRecDepth 100000 in
set_option maxHeartbeats 4000000 in
theorem wX12_keepPast_101 {l : Launch} {D : va_G} {cI cZ : ClassId} {ad : Nat → Nat} {a : Program × Env × State × MethodId} {b : Array Value × List Frame × Method × Code × (State → Prop) × Nat} {A : Nat → Prop} (K : KS (GM l 0 0 D cI cZ ad a b A) cX12_keepPast RX12 wsX12_keepPast none) (hn : x_n (GM l 0 0 D cI cZ ad a b A) = 3) {res : (Int32 × St)} (hR : HRv (GM l 0 0 D cI cZ ad a b A) cX12_keepPast res) : ∀ (v1 : Int32), ∀ (σ : St), mX12_keepPast_101 v1 σ = some res → Wk (GM l 0 0 D cI cZ ad a b A) 101 [(0, .ref (ad 0)), (1, .int v1)] [] σ := by
  intro v1 σ h
  unfold mX12_keepPast_101 at h
  refine k_aload_n K dX12_keepPast_101 0 rfl ?_
  refine k_get K 0 12 0 iX12_keepPast_X12 (Nat.le_of_ble_eq_true rfl) ((mM_0 cI cZ ad) _) rfl (by decide) fX12_keepPast_7 rfl dX12_keepPast_102 ?_
  refine k_iconst (x := 0) K dX12_keepPast_105 (by decide) ?_
  refine k_iload_n K dX12_keepPast_106 1 rfl ?_
  refine k_iconst (x := 1) K dX12_keepPast_107 (by decide) ?_
  refine k_iadd K dX12_keepPast_108 ?_
  obtain ⟨g4, h⟩ := gd_some h
  have h := lt_some h
  refine k_ist K 1 0 (Nat.le_of_ble_eq_true rfl) (mM_1 cI cZ ad) rfl g4 dX12_keepPast_109 ?_
  exact ret_v hR h dX12_keepPast_110
set_option maxRecDepth 100000 in
set_option maxHeartbeats 4000000 in
theorem wX12_keepPast_64 {l : Launch} {D : va_G} {cI cZ : ClassId} {ad : Nat → Nat} {a : Program × Env × State × MethodId} {b : Array Value × List Frame × Method × Code × (State → Prop) × Nat} {A : Nat → Prop} {k101 : Int32 → St → Option (Int32 × St)} (K : KS (GM l 0 0 D cI cZ ad a b A) cX12_keepPast RX12 wsX12_keepPast none) (hn : x_n (GM l 0 0 D cI cZ ad a b A) = 3) {res : (Int32 × St)} (hR : HRv (GM l 0 0 D cI cZ ad a b A) cX12_keepPast res) (hk101 : ∀ (v1 : Int32) (σ : St), k101 v1 σ = some res → Wk (GM l 0 0 D cI cZ ad a b A) 101 [(0, .ref (ad 0)), (1, .int v1)] [] σ) : ∀ (n : Nat) (v1 : Int32) (v2 : Int32) (σ : St), mX12_keepPast_64 k101 n v1 v2 σ = some res → Wk (GM l 0 0 D cI cZ ad a b A) 64 [(0, .ref (ad 0)), (1, .int v1), (2, .int v2)] [] σ := by
  intro n
  induction n with
  | zero => intro v1 v2 σ h; cases h
  | succ n ih =>
    intro v1 v2 σ h
    unfold mX12_keepPast_64 at h
    refine k_iload_n K dX12_keepPast_64 2 rfl ?_
    refine k_sipush (x := 152) K dX12_keepPast_65 (by decide) ?_
    refine k_icmp_ge (tgt := 101) K dX12_keepPast_68 (by decide) (fun q => ?_) (fun q => ?_)
    · have h := if_f q h
      exact k_sub [0, 1] rfl (hk101 _ _ h)
    · have h := if_t q h
      refine k_aload_n K dX12_keepPast_71 0 rfl ?_
      refine k_get K 0 12 0 iX12_keepPast_X12 (Nat.le_of_ble_eq_true rfl) ((mM_0 cI cZ ad) _) rfl (by decide) fX12_keepPast_7 rfl dX12_keepPast_72 ?_
      refine k_iconst (x := 1) K dX12_keepPast_75 (by decide) ?_
      refine k_sipush (x := 152) K dX12_keepPast_76 (by decide) ?_
      refine k_iconst (x := 1) K dX12_keepPast_79 (by decide) ?_
      refine k_iload_n K dX12_keepPast_80 1 rfl ?_
      refine k_iadd K dX12_keepPast_81 ?_
      refine k_imul K dX12_keepPast_82 ?_
      refine k_iadd K dX12_keepPast_83 ?_
      refine k_iload_n K dX12_keepPast_84 2 rfl ?_
      refine k_iadd K dX12_keepPast_85 ?_
      refine k_aload_n K dX12_keepPast_86 0 rfl ?_
      refine k_get K 0 12 0 iX12_keepPast_X12 (Nat.le_of_ble_eq_true rfl) ((mM_0 cI cZ ad) _) rfl (by decide) fX12_keepPast_7 rfl dX12_keepPast_87 ?_
      refine k_iconst (x := 1) K dX12_keepPast_90 (by decide) ?_
      refine k_iload_n K dX12_keepPast_91 2 rfl ?_
      refine k_iadd K dX12_keepPast_92 ?_
      obtain ⟨g6, h⟩ := gd_some h
      refine k_ild K 1 0 (Nat.le_of_ble_eq_true rfl) ((mM_1 cI cZ ad) _) rfl g6 dX12_keepPast_93 ?_
      have h := lt_some h
      obtain ⟨g8, h⟩ := gd_some h
      have h := lt_some h
      refine k_ist K 1 0 (Nat.le_of_ble_eq_true rfl) (mM_1 cI cZ ad) rfl g8 dX12_keepPast_94 ?_
      have h := lt_some h
      refine k_iinc (lv' := [(2, _), (0, _), (1, _)]) K dX12_keepPast_95 2 rfl (v := _ + 1) (by rfl) (by rw [hn]; decide) rfl ?_
      refine k_goto (tgt := 64) K dX12_keepPast_98 (by decide) ?_
      exact k_sub [1, 2, 0] rfl (ih _ _ _ h)
set_option maxRecDepth 100000 in
set_option maxHeartbeats 4000000 in
theorem wX12_keepPast_60 {l : Launch} {D : va_G} {cI cZ : ClassId} {ad : Nat → Nat} {a : Program × Env × State × MethodId} {b : Array Value × List Frame × Method × Code × (State → Prop) × Nat} {A : Nat → Prop} (K : KS (GM l 0 0 D cI cZ ad a b A) cX12_keepPast RX12 wsX12_keepPast none) (hn : x_n (GM l 0 0 D cI cZ ad a b A) = 3) {res : (Int32 × St)} (hR : HRv (GM l 0 0 D cI cZ ad a b A) cX12_keepPast res) : ∀ (t0 : Int32), ∀ (t1 : Int32), ∀ (σ : St), mX12_keepPast_60 t0 t1 σ = some res → Wk (GM l 0 0 D cI cZ ad a b A) 60 [(0, .ref (ad 0))] [.int t0, .int t1] σ := by
  intro t0 t1 σ h
  unfold mX12_keepPast_60 at h
  refine k_isub K dX12_keepPast_60 ?_
  have h := lt_some h
  refine k_istore_n (lv' := [(1, _), (0, _)]) K dX12_keepPast_61 (by rw [hn]; decide) rfl ?_
  refine k_iconst (x := 0) K dX12_keepPast_62 (by decide) ?_
  refine k_istore_n (lv' := [(2, _), (1, _), (0, _)]) K dX12_keepPast_63 (by rw [hn]; decide) rfl ?_
  exact k_sub [2, 1, 0] rfl (wX12_keepPast_64 K hn hR (fun v1 σ h => wX12_keepPast_101 K hn hR v1 σ h) FU _ _ _ h)
set_option maxRecDepth 100000 in
set_option maxHeartbeats 4000000 in
theorem wX12_keepPast_48 {l : Launch} {D : va_G} {cI cZ : ClassId} {ad : Nat → Nat} {a : Program × Env × State × MethodId} {b : Array Value × List Frame × Method × Code × (State → Prop) × Nat} {A : Nat → Prop} (K : KS (GM l 0 0 D cI cZ ad a b A) cX12_keepPast RX12 wsX12_keepPast none) (hn : x_n (GM l 0 0 D cI cZ ad a b A) = 3) {res : (Int32 × St)} (hR : HRv (GM l 0 0 D cI cZ ad a b A) cX12_keepPast res) : ∀ (v1 : Int32), ∀ (σ : St), mX12_keepPast_48 v1 σ = some res → Wk (GM l 0 0 D cI cZ ad a b A) 48 [(0, .ref (ad 0)), (1, .int v1)] [] σ := by
  intro v1 σ h
  unfold mX12_keepPast_48 at h
  refine k_iload_n K dX12_keepPast_48 1 rfl ?_
  refine k_iload_n K dX12_keepPast_49 1 rfl ?_
  refine k_bipush (x := 10) K dX12_keepPast_50 (by decide) ?_
  refine k_icmp_ne (tgt := 59) K dX12_keepPast_52 (by decide) (fun q => ?_) (fun q => ?_)
  · have h := if_f q h
    refine k_iconst (x := 0) K dX12_keepPast_59 (by decide) ?_
    exact k_sub [0] rfl (wX12_keepPast_60 K hn hR _ _ _ h)
  · have h := if_t q h
    refine k_iconst (x := 1) K dX12_keepPast_55 (by decide) ?_
    refine k_goto (tgt := 60) K dX12_keepPast_56 (by decide) ?_
    exact k_sub [0] rfl (wX12_keepPast_60 K hn hR _ _ _ h)
set_option maxRecDepth 100000 in
set_option maxHeartbeats 4000000 in
theorem wX12_keepPast_9 {l : Launch} {D : va_G} {cI cZ : ClassId} {ad : Nat → Nat} {a : Program × Env × State × MethodId} {b : Array Value × List Frame × Method × Code × (State → Prop) × Nat} {A : Nat → Prop} {k48 : Int32 → St → Option (Int32 × St)} (K : KS (GM l 0 0 D cI cZ ad a b A) cX12_keepPast RX12 wsX12_keepPast none) (hn : x_n (GM l 0 0 D cI cZ ad a b A) = 3) {res : (Int32 × St)} (hR : HRv (GM l 0 0 D cI cZ ad a b A) cX12_keepPast res) (hk48 : ∀ (v1 : Int32) (σ : St), k48 v1 σ = some res → Wk (GM l 0 0 D cI cZ ad a b A) 48 [(0, .ref (ad 0)), (1, .int v1)] [] σ) : ∀ (n : Nat) (v1 : Int32) (v2 : Int32) (σ : St), mX12_keepPast_9 k48 n v1 v2 σ = some res → Wk (GM l 0 0 D cI cZ ad a b A) 9 [(0, .ref (ad 0)), (1, .int v1), (2, .int v2)] [] σ := by
  intro n
  induction n with
  | zero => intro v1 v2 σ h; cases h
  | succ n ih =>
    intro v1 v2 σ h
    unfold mX12_keepPast_9 at h
    refine k_iload_n K dX12_keepPast_9 2 rfl ?_
    refine k_sipush (x := 1368) K dX12_keepPast_10 (by decide) ?_
    refine k_icmp_ge (tgt := 48) K dX12_keepPast_13 (by decide) (fun q => ?_) (fun q => ?_)
    · have h := if_f q h
      exact k_sub [0, 1] rfl (hk48 _ _ h)
    · have h := if_t q h
      refine k_iload_n K dX12_keepPast_16 1 rfl ?_
      refine k_bipush (x := 10) K dX12_keepPast_17 (by decide) ?_
      refine k_icmp_ne (tgt := 48) K dX12_keepPast_19 (by decide) (fun q => ?_) (fun q => ?_)
      · have h := if_f q h
        exact k_sub [0, 1] rfl (hk48 _ _ h)
      · have h := if_t q h
        refine k_aload_n K dX12_keepPast_22 0 rfl ?_
        refine k_get K 0 12 0 iX12_keepPast_X12 (Nat.le_of_ble_eq_true rfl) ((mM_0 cI cZ ad) _) rfl (by decide) fX12_keepPast_7 rfl dX12_keepPast_23 ?_
        refine k_sipush (x := 153) K dX12_keepPast_26 (by decide) ?_
        refine k_iload_n K dX12_keepPast_29 2 rfl ?_
        refine k_iadd K dX12_keepPast_30 ?_
        refine k_aload_n K dX12_keepPast_31 0 rfl ?_
        refine k_get K 0 12 0 iX12_keepPast_X12 (Nat.le_of_ble_eq_true rfl) ((mM_0 cI cZ ad) _) rfl (by decide) fX12_keepPast_7 rfl dX12_keepPast_32 ?_
        refine k_sipush (x := 305) K dX12_keepPast_35 (by decide) ?_
        refine k_iload_n K dX12_keepPast_38 2 rfl ?_
        refine k_iadd K dX12_keepPast_39 ?_
        obtain ⟨g11, h⟩ := gd_some h
        refine k_ild K 1 0 (Nat.le_of_ble_eq_true rfl) ((mM_1 cI cZ ad) _) rfl g11 dX12_keepPast_40 ?_
        obtain ⟨g12, h⟩ := gd_some h
        have h := lt_some h
        refine k_ist K 1 0 (Nat.le_of_ble_eq_true rfl) (mM_1 cI cZ ad) rfl g12 dX12_keepPast_41 ?_
        have h := lt_some h
        refine k_iinc (lv' := [(2, _), (0, _), (1, _)]) K dX12_keepPast_42 2 rfl (v := _ + 1) (by rfl) (by rw [hn]; decide) rfl ?_
        refine k_goto (tgt := 9) K dX12_keepPast_45 (by decide) ?_
        exact k_sub [1, 2, 0] rfl (ih _ _ _ h)
set_option maxRecDepth 100000 in
set_option maxHeartbeats 4000000 in
theorem ctX12_keepPast {l : Launch} {D : va_G} {cI cZ : ClassId} {ad : Nat → Nat} {σ : St} {res : (Int32 × St)} (h : mX12_keepPast σ = some res) : Cv l yX12_keepPast wsX12_keepPast 0 0 D vwCl (tysM cI cZ) nwM (mkM cI cZ ad) ad 17 [.ref (ad 0)] σ res := by
  refine c_void (cc := cX12_keepPast) (maxL := 3) (by decide) rfl (Nat.le_of_ble_eq_true rfl) fun a b hn K hR => ?_
  unfold mX12_keepPast at h
  have K : KS (GM l 0 0 D cI cZ ad a b (w_A ad 17)) cX12_keepPast RX12 wsX12_keepPast none := K
  have hn : x_n (GM l 0 0 D cI cZ ad a b (w_A ad 17)) = 3 := hn
  refine k_sub [0] rfl ?_
  refine k_aload_n K dX12_keepPast_0 0 rfl ?_
  refine k_get K 0 12 0 iX12_keepPast_X12 (Nat.le_of_ble_eq_true rfl) ((mM_0 cI cZ ad) _) rfl (by decide) fX12_keepPast_7 rfl dX12_keepPast_1 ?_
  refine k_iconst (x := 0) K dX12_keepPast_4 (by decide) ?_
  obtain ⟨g1, h⟩ := gd_some h
  refine k_ild K 1 0 (Nat.le_of_ble_eq_true rfl) ((mM_1 cI cZ ad) _) rfl g1 dX12_keepPast_5 ?_
  have h := lt_some h
  refine k_istore_n (lv' := [(1, _), (0, _)]) K dX12_keepPast_6 (by rw [hn]; decide) rfl ?_
  refine k_iconst (x := 0) K dX12_keepPast_7 (by decide) ?_
  refine k_istore_n (lv' := [(2, _), (1, _), (0, _)]) K dX12_keepPast_8 (by rw [hn]; decide) rfl ?_
  exact k_sub [2, 1, 0] rfl (wX12_keepPast_9 K hn hR (fun v1 σ h => wX12_keepPast_48 K hn hR v1 σ h) FU _ _ _ h)
-- X12_lying (1, 21)
set_option maxRecDepth 100000 in
set_option maxHeartbeats 4000000 in
theorem wX12_lying_4 {l : Launch} {D : va_G} {cI cZ : ClassId} {ad : Nat → Nat} {a : Program × Env × State × MethodId} {b : Array Value × List Frame × Method × Code × (State → Prop) × Nat} {A : Nat → Prop} (K : KS (GM l 1 21 D cI cZ ad a b A) cX12_lying RX12 wsX12_lying (some .int)) (hn : x_n (GM l 1 21 D cI cZ ad a b A) = 3) {res : (Int32 × St)} (hR : HRi (GM l 1 21 D cI cZ ad a b A) cX12_lying tb res) : ∀ (n : Nat) (v1 : Int32) (v2 : Int32) (σ : St), mX12_lying_4 n v1 v2 σ = some res → Wk (GM l 1 21 D cI cZ ad a b A) 4 [(0, .ref (ad 0)), (1, .int v1), (2, .int v2)] [] σ := by
  intro n
  induction n with
  | zero => intro v1 v2 σ h; cases h
  | succ n ih =>
    intro v1 v2 σ h
    unfold mX12_lying_4 at h
    refine k_iload_n K dX12_lying_4 2 rfl ?_
    refine k_aload_n K dX12_lying_5 0 rfl ?_
    obtain ⟨⟨r1, s2⟩, e3, h⟩ := bd_some h
    dsimp only at h
    refine k_callVi K 0 12 (Nat.le_of_ble_eq_true rfl) ((mM_0 cI cZ ad) _) rfl (ctX12_cells e3) (cwV 0 K.ts gX12_lying_X12_cells rfl rfl rfl hVX12_cells ⟨Nat.le_of_ble_eq_true rfl, Nat.le_of_ble_eq_true rfl⟩) rfl rfl (Nat.le_of_ble_eq_true rfl) dX12_lying_6 ?_
    refine k_icmp_ge (tgt := 26) K dX12_lying_9 (by decide) (fun q => ?_) (fun q => ?_)
    · have h := if_f q h
      refine k_iload_n K dX12_lying_26 1 rfl ?_
      exact ret_i hR h dX12_lying_27 trivial
    · have h := if_t q h
      refine k_iload_n K dX12_lying_12 1 rfl ?_
      refine k_aload_n K dX12_lying_13 0 rfl ?_
      refine k_iload_n K dX12_lying_14 2 rfl ?_
      obtain ⟨⟨r4, s5⟩, e6, h⟩ := bd_some h
      dsimp only at h
      refine k_callVi K 0 12 (Nat.le_of_ble_eq_true rfl) ((mM_0 cI cZ ad) _) rfl (ctX12_liesOn e6) (cwV 1 K.ts gX12_lying_X12_liesOn rfl rfl rfl hVX12_liesOn ⟨Nat.le_of_ble_eq_true rfl, Nat.le_of_ble_eq_true rfl⟩) rfl rfl (Nat.le_of_ble_eq_true rfl) dX12_lying_15 ?_
      refine k_iadd K dX12_lying_18 ?_
      have h := lt_some h
      refine k_istore_n (lv' := [(1, _), (0, _), (2, _)]) K dX12_lying_19 (by rw [hn]; decide) rfl ?_
      have h := lt_some h
      refine k_iinc (lv' := [(2, _), (1, _), (0, _)]) K dX12_lying_20 2 rfl (v := _ + 1) (by rfl) (by rw [hn]; decide) rfl ?_
      refine k_goto (tgt := 4) K dX12_lying_23 (by decide) ?_
      exact k_sub [2, 1, 0] rfl (ih _ _ _ h)
set_option maxRecDepth 100000 in
set_option maxHeartbeats 4000000 in
theorem ctX12_lying {l : Launch} {D : va_G} {cI cZ : ClassId} {ad : Nat → Nat} {σ : St} {res : (Int32 × St)} (h : mX12_lying σ = some res) : Ci l yX12_lying wsX12_lying 1 21 D vwCl (tysM cI cZ) nwM (mkM cI cZ ad) ad 17 [.ref (ad 0)] σ res := by
  refine c_int (cc := cX12_lying) (maxL := 3) (by decide) rfl (Nat.le_of_ble_eq_true rfl) fun a b hn K hR => ?_
  unfold mX12_lying at h
  have K : KS (GM l 1 21 D cI cZ ad a b (w_A ad 17)) cX12_lying RX12 wsX12_lying (some .int) := K
  have hn : x_n (GM l 1 21 D cI cZ ad a b (w_A ad 17)) = 3 := hn
  refine k_sub [0] rfl ?_
  refine k_iconst (x := 0) K dX12_lying_0 (by decide) ?_
  refine k_istore_n (lv' := [(1, _), (0, _)]) K dX12_lying_1 (by rw [hn]; decide) rfl ?_
  refine k_iconst (x := 0) K dX12_lying_2 (by decide) ?_
  refine k_istore_n (lv' := [(2, _), (1, _), (0, _)]) K dX12_lying_3 (by rw [hn]; decide) rfl ?_
  exact k_sub [2, 1, 0] rfl (wX12_lying_4 K hn hR FU _ _ _ h)
-- X12_sumFrom (1, 20)
theorem iX12_sumFrom_X12 : ∀ w ∈ wsX120, w ∈ wsX12_sumFrom := fun _ h => List.mem_cons_of_mem _ (List.mem_append_right _ h)
theorem fX12_sumFrom_7 : Cond.fieldLink RX12 7 "SlopeCoinsModel" "row" "[I" ∈ wsX12_sumFrom := by decide +kernel
set_option maxRecDepth 100000 in
set_option maxHeartbeats 4000000 in
theorem wX12_sumFrom_4 {l : Launch} {D : va_G} {cI cZ : ClassId} {ad : Nat → Nat} {a : Program × Env × State × MethodId} {b : Array Value × List Frame × Method × Code × (State → Prop) × Nat} {A : Nat → Prop} (K : KS (GM l 1 20 D cI cZ ad a b A) cX12_sumFrom RX12 wsX12_sumFrom (some .int)) (hn : x_n (GM l 1 20 D cI cZ ad a b A) = 4) {res : (Int32 × St)} (hR : HRi (GM l 1 20 D cI cZ ad a b A) cX12_sumFrom tb res) : ∀ (n : Nat) (v1 : Int32) (v2 : Int32) (v3 : Int32) (σ : St), mX12_sumFrom_4 n v1 v2 v3 σ = some res → Wk (GM l 1 20 D cI cZ ad a b A) 4 [(0, .ref (ad 0)), (1, .int v1), (2, .int v2), (3, .int v3)] [] σ := by
  intro n
  induction n with
  | zero => intro v1 v2 v3 σ h; cases h
  | succ n ih =>
    intro v1 v2 v3 σ h
    unfold mX12_sumFrom_4 at h
    refine k_iload_n K dX12_sumFrom_4 3 rfl ?_
    refine k_aload_n K dX12_sumFrom_5 0 rfl ?_
    obtain ⟨⟨r1, s2⟩, e3, h⟩ := bd_some h
    dsimp only at h
    refine k_callVi K 0 12 (Nat.le_of_ble_eq_true rfl) ((mM_0 cI cZ ad) _) rfl (ctX12_cells e3) (cwV 0 K.ts gX12_sumFrom_X12_cells rfl rfl rfl hVX12_cells ⟨Nat.le_of_ble_eq_true rfl, Nat.le_of_ble_eq_true rfl⟩) rfl rfl (Nat.le_of_ble_eq_true rfl) dX12_sumFrom_6 ?_
    refine k_icmp_ge (tgt := 29) K dX12_sumFrom_9 (by decide) (fun q => ?_) (fun q => ?_)
    · have h := if_f q h
      refine k_iload_n K dX12_sumFrom_29 2 rfl ?_
      exact ret_i hR h dX12_sumFrom_30 trivial
    · have h := if_t q h
      refine k_iload_n K dX12_sumFrom_12 2 rfl ?_
      refine k_aload_n K dX12_sumFrom_13 0 rfl ?_
      refine k_get K 0 12 0 iX12_sumFrom_X12 (Nat.le_of_ble_eq_true rfl) ((mM_0 cI cZ ad) _) rfl (by decide) fX12_sumFrom_7 rfl dX12_sumFrom_14 ?_
      refine k_iload_n K dX12_sumFrom_17 1 rfl ?_
      refine k_iload_n K dX12_sumFrom_18 3 rfl ?_
      refine k_iadd K dX12_sumFrom_19 ?_
      obtain ⟨g4, h⟩ := gd_some h
      refine k_ild K 1 0 (Nat.le_of_ble_eq_true rfl) ((mM_1 cI cZ ad) _) rfl g4 dX12_sumFrom_20 ?_
      refine k_iadd K dX12_sumFrom_21 ?_
      have h := lt_some h
      refine k_istore_n (lv' := [(2, _), (0, _), (1, _), (3, _)]) K dX12_sumFrom_22 (by rw [hn]; decide) rfl ?_
      have h := lt_some h
      refine k_iinc (lv' := [(3, _), (2, _), (0, _), (1, _)]) K dX12_sumFrom_23 3 rfl (v := _ + 1) (by rfl) (by rw [hn]; decide) rfl ?_
      refine k_goto (tgt := 4) K dX12_sumFrom_26 (by decide) ?_
      exact k_sub [2, 3, 1, 0] rfl (ih _ _ _ _ h)
set_option maxRecDepth 100000 in
set_option maxHeartbeats 4000000 in
theorem ctX12_sumFrom {l : Launch} {D : va_G} {cI cZ : ClassId} {ad : Nat → Nat} {v1 : Int32} {σ : St} {res : (Int32 × St)} (h : mX12_sumFrom v1 σ = some res) : Ci l yX12_sumFrom wsX12_sumFrom 1 20 D vwCl (tysM cI cZ) nwM (mkM cI cZ ad) ad 17 [.ref (ad 0), .int v1] σ res := by
  refine c_int (cc := cX12_sumFrom) (maxL := 4) (by decide) rfl (Nat.le_of_ble_eq_true rfl) fun a b hn K hR => ?_
  unfold mX12_sumFrom at h
  have K : KS (GM l 1 20 D cI cZ ad a b (w_A ad 17)) cX12_sumFrom RX12 wsX12_sumFrom (some .int) := K
  have hn : x_n (GM l 1 20 D cI cZ ad a b (w_A ad 17)) = 4 := hn
  refine k_sub [0, 1] rfl ?_
  refine k_iconst (x := 0) K dX12_sumFrom_0 (by decide) ?_
  refine k_istore_n (lv' := [(2, _), (0, _), (1, _)]) K dX12_sumFrom_1 (by rw [hn]; decide) rfl ?_
  refine k_iconst (x := 0) K dX12_sumFrom_2 (by decide) ?_
  refine k_istore_n (lv' := [(3, _), (2, _), (0, _), (1, _)]) K dX12_sumFrom_3 (by rw [hn]; decide) rfl ?_
  exact k_sub [2, 3, 1, 0] rfl (wX12_sumFrom_4 K hn hR FU _ _ _ _ h)

/-! walks, by program -/
-- X12_readsGrating (4, 92)
theorem iX12_readsGrating_X12 : ∀ w ∈ wsX120, w ∈ wsX12_readsGrating := fun _ h => List.mem_cons_of_mem _ (List.mem_append_right _ h)
theorem fX12_readsGrating_47 : Cond.fieldLink RX12 47 "SlopeCoinsModel" "readGratings" "[I" ∈ wsX12_readsGrating := by decide +kernel
theorem fX12_readsGrating_53 : Cond.fieldLink RX12 53 "SlopeCoinsModel" "numbers" "[I" ∈ wsX12_readsGrating := by decide +kernel
theorem fX12_readsGrating_101 : Cond.fieldLink RX12 101 "SlopeCoinsModel" "readHigh" "I" ∈ wsX12_readsGrating := by decide +kernel
theorem fX12_readsGrating_116 : Cond.fieldLink RX12 116 "SlopeCoinsModel" "readGratingMany" "I" ∈ wsX12_readsGrating := by decide +kernel
set_option maxRecDepth 100000 in
set_option maxHeartbeats 4000000 in
theorem ctX12_readsGrating {l : Launch} {D : va_G} {cI cZ : ClassId} {ad : Nat → Nat} {σ : St} {res : (Int32 × St)} (h : mX12_readsGrating σ = some res) : Ci l yX12_readsGrating wsX12_readsGrating 4 92 D vwCl (tysM cI cZ) nwM (mkM cI cZ ad) ad 17 [.ref (ad 0)] σ res := by
  refine c_bool (cc := cX12_readsGrating) (maxL := 1) (by decide) rfl (Nat.le_of_ble_eq_true rfl) fun a b hn K hR => ?_
  unfold mX12_readsGrating at h
  have K : KS (GM l 4 92 D cI cZ ad a b (w_A ad 17)) cX12_readsGrating RX12 wsX12_readsGrating (some .boolean) := K
  have hn : x_n (GM l 4 92 D cI cZ ad a b (w_A ad 17)) = 1 := hn
  refine k_sub [0] rfl ?_
  refine k_aload_n K dX12_readsGrating_0 0 rfl ?_
  obtain ⟨⟨r1, s2⟩, e3, h⟩ := bd_some h
  dsimp only at h
  refine k_callVi K 0 12 (Nat.le_of_ble_eq_true rfl) ((mM_0 cI cZ ad) _) rfl (ctX12_readsCell e3) (cwV 0 K.ts gX12_readsGrating_X12_readsCell rfl rfl rfl hVX12_readsCell ⟨Nat.le_of_ble_eq_true rfl, Nat.le_of_ble_eq_true rfl⟩) rfl rfl (Nat.le_of_ble_eq_true rfl) dX12_readsGrating_1 ?_
  refine k_if_ne (tgt := 9) K dX12_readsGrating_4 (by decide) (fun q => ?_) (fun q => ?_)
  · have h := if_f q h
    refine k_aload_n K dX12_readsGrating_9 0 rfl ?_
    refine k_get K 0 12 29 iX12_readsGrating_X12 (Nat.le_of_ble_eq_true rfl) ((mM_0 cI cZ ad) _) rfl (by decide) fX12_readsGrating_53 rfl dX12_readsGrating_10 ?_
    refine k_iconst (x := 1) K dX12_readsGrating_13 (by decide) ?_
    refine k_aload_n K dX12_readsGrating_14 0 rfl ?_
    refine k_iconst (x := 0) K dX12_readsGrating_15 (by decide) ?_
    refine k_aload_n K dX12_readsGrating_16 0 rfl ?_
    refine k_get K 0 12 21 iX12_readsGrating_X12 (Nat.le_of_ble_eq_true rfl) ((mM_0 cI cZ ad) _) rfl (by decide) fX12_readsGrating_101 rfl dX12_readsGrating_17 ?_
    refine k_iconst (x := 1) K dX12_readsGrating_20 (by decide) ?_
    refine k_isub K dX12_readsGrating_21 ?_
    obtain ⟨⟨r4, s5⟩, e6, h⟩ := bd_some h
    dsimp only at h
    refine k_callVi K 0 12 (Nat.le_of_ble_eq_true rfl) ((mM_0 cI cZ ad) _) rfl (ctX12_number e6) (cwV 2 K.ts gX12_readsGrating_X12_number rfl rfl rfl hVX12_number ⟨Nat.le_of_ble_eq_true rfl, Nat.le_of_ble_eq_true rfl⟩) rfl rfl (Nat.le_of_ble_eq_true rfl) dX12_readsGrating_22 ?_
    obtain ⟨g7, h⟩ := gd_some h
    have h := lt_some h
    refine k_ist K 15 0 (Nat.le_of_ble_eq_true rfl) (mM_15 cI cZ ad) rfl g7 dX12_readsGrating_25 ?_
    refine k_aload_n K dX12_readsGrating_26 0 rfl ?_
    refine k_get K 0 12 29 iX12_readsGrating_X12 (Nat.le_of_ble_eq_true rfl) ((mM_0 cI cZ ad) _) rfl (by decide) fX12_readsGrating_53 rfl dX12_readsGrating_27 ?_
    refine k_iconst (x := 1) K dX12_readsGrating_30 (by decide) ?_
    obtain ⟨g9, h⟩ := gd_some h
    refine k_ild K 15 0 (Nat.le_of_ble_eq_true rfl) ((mM_15 cI cZ ad) _) rfl g9 dX12_readsGrating_31 ?_
    refine k_bipush (x := (-9)) K dX12_readsGrating_32 (by decide) ?_
    refine k_icmp_eq (tgt := 49) K dX12_readsGrating_34 (by decide) (fun q => ?_) (fun q => ?_)
    · have h := if_t q h
      refine k_iconst (x := 0) K dX12_readsGrating_49 (by decide) ?_
      exact ret_i hR h dX12_readsGrating_50 zb_0
    · have h := if_f q h
      refine k_aload_n K dX12_readsGrating_37 0 rfl ?_
      refine k_get K 0 12 24 iX12_readsGrating_X12 (Nat.le_of_ble_eq_true rfl) ((mM_0 cI cZ ad) _) rfl (by decide) fX12_readsGrating_47 rfl dX12_readsGrating_38 ?_
      refine k_aload_n K dX12_readsGrating_41 0 rfl ?_
      obtain ⟨⟨r10, s11⟩, e12, h⟩ := bd_some h
      dsimp only at h
      refine k_callVi K 0 12 (Nat.le_of_ble_eq_true rfl) ((mM_0 cI cZ ad) _) rfl (ctX12_readBit e12) (cwV 0 K.ts gX12_readsGrating_X12_readBit rfl rfl rfl hVX12_readBit ⟨Nat.le_of_ble_eq_true rfl, Nat.le_of_ble_eq_true rfl⟩) rfl rfl (Nat.le_of_ble_eq_true rfl) dX12_readsGrating_42 ?_
      obtain ⟨g13, h⟩ := gd_some h
      refine k_ild K 13 0 (Nat.le_of_ble_eq_true rfl) ((mM_13 cI cZ ad) _) rfl g13 dX12_readsGrating_45 ?_
      refine k_if_le (tgt := 51) K dX12_readsGrating_46 (by decide) (fun q => ?_) (fun q => ?_)
      · have h := if_f q h
        refine k_aload_n K dX12_readsGrating_51 0 rfl ?_
        obtain ⟨⟨r14, s15⟩, e16, h⟩ := bd_some h
        dsimp only at h
        refine k_callVv K 0 12 (Nat.le_of_ble_eq_true rfl) ((mM_0 cI cZ ad) _) rfl (ctX12_token e16) (cwV 0 K.ts gX12_readsGrating_X12_token rfl rfl rfl hVX12_token ⟨Nat.le_of_ble_eq_true rfl, Nat.le_of_ble_eq_true rfl⟩) rfl rfl (Nat.le_of_ble_eq_true rfl) dX12_readsGrating_52 ?_
        refine k_aload_n K dX12_readsGrating_55 0 rfl ?_
        refine k_iconst (x := 2) K dX12_readsGrating_56 (by decide) ?_
        refine k_iconst (x := 1) K dX12_readsGrating_57 (by decide) ?_
        refine k_bipush (x := 9) K dX12_readsGrating_58 (by decide) ?_
        obtain ⟨⟨r17, s18⟩, e19, h⟩ := bd_some h
        dsimp only at h
        refine k_callVi K 0 12 (Nat.le_of_ble_eq_true rfl) ((mM_0 cI cZ ad) _) rfl (ctX12_reads e19) (cwV 3 K.ts gX12_readsGrating_X12_reads rfl rfl rfl hVX12_reads ⟨Nat.le_of_ble_eq_true rfl, Nat.le_of_ble_eq_true rfl⟩) rfl rfl (Nat.le_of_ble_eq_true rfl) dX12_readsGrating_60 ?_
        refine k_if_ne (tgt := 68) K dX12_readsGrating_63 (by decide) (fun q => ?_) (fun q => ?_)
        · have h := if_f q h
          refine k_aload_n K dX12_readsGrating_68 0 rfl ?_
          refine k_get K 0 12 24 iX12_readsGrating_X12 (Nat.le_of_ble_eq_true rfl) ((mM_0 cI cZ ad) _) rfl (by decide) fX12_readsGrating_47 rfl dX12_readsGrating_69 ?_
          refine k_aload_n K dX12_readsGrating_72 0 rfl ?_
          obtain ⟨⟨r20, s21⟩, e22, h⟩ := bd_some h
          dsimp only at h
          refine k_callVi K 0 12 (Nat.le_of_ble_eq_true rfl) ((mM_0 cI cZ ad) _) rfl (ctX12_readBit e22) (cwV 0 K.ts gX12_readsGrating_X12_readBit rfl rfl rfl hVX12_readBit ⟨Nat.le_of_ble_eq_true rfl, Nat.le_of_ble_eq_true rfl⟩) rfl rfl (Nat.le_of_ble_eq_true rfl) dX12_readsGrating_73 ?_
          refine k_aload_n K dX12_readsGrating_76 0 rfl ?_
          refine k_get K 0 12 29 iX12_readsGrating_X12 (Nat.le_of_ble_eq_true rfl) ((mM_0 cI cZ ad) _) rfl (by decide) fX12_readsGrating_53 rfl dX12_readsGrating_77 ?_
          refine k_iconst (x := 2) K dX12_readsGrating_80 (by decide) ?_
          obtain ⟨g23, h⟩ := gd_some h
          refine k_ild K 15 0 (Nat.le_of_ble_eq_true rfl) ((mM_15 cI cZ ad) _) rfl g23 dX12_readsGrating_81 ?_
          obtain ⟨g24, h⟩ := gd_some h
          have h := lt_some h
          refine k_ist K 13 0 (Nat.le_of_ble_eq_true rfl) (mM_13 cI cZ ad) rfl g24 dX12_readsGrating_82 ?_
          refine k_aload_n K dX12_readsGrating_83 0 rfl ?_
          refine k_dup K dX12_readsGrating_84 rfl ?_
          refine k_get K 0 12 25 iX12_readsGrating_X12 (Nat.le_of_ble_eq_true rfl) ((mM_0 cI cZ ad) _) rfl (by decide) fX12_readsGrating_116 rfl dX12_readsGrating_85 ?_
          refine k_iconst (x := 1) K dX12_readsGrating_88 (by decide) ?_
          refine k_iadd K dX12_readsGrating_89 ?_
          have h := lt_some h
          refine k_putI K 0 12 25 tyX12 tyX12_ok nmX12 iX12_readsGrating_X12 (Nat.le_of_ble_eq_true rfl) ((mM_0 cI cZ ad) _) rfl (by decide) fX12_readsGrating_116 rfl (by decide +kernel) (Nat.le_of_ble_eq_true rfl) (pM_0_25 cI cZ ad _ _) dX12_readsGrating_90 ?_
          refine k_iconst (x := 1) K dX12_readsGrating_93 (by decide) ?_
          exact ret_i hR h dX12_readsGrating_94 zb_1
        · have h := if_t q h
          refine k_iconst (x := 0) K dX12_readsGrating_66 (by decide) ?_
          exact ret_i hR h dX12_readsGrating_67 zb_0
      · have h := if_t q h
        refine k_iconst (x := 0) K dX12_readsGrating_49 (by decide) ?_
        exact ret_i hR h dX12_readsGrating_50 zb_0
  · have h := if_t q h
    refine k_iconst (x := 0) K dX12_readsGrating_7 (by decide) ?_
    exact ret_i hR h dX12_readsGrating_8 zb_0
-- X12_readsKind (3, 72)
theorem iX12_readsKind_X12 : ∀ w ∈ wsX120, w ∈ wsX12_readsKind := fun _ h => List.mem_cons_of_mem _ (List.mem_append_right _ h)
theorem fX12_readsKind_50 : Cond.fieldLink RX12 50 "SlopeCoinsModel" "readKind" "[I" ∈ wsX12_readsKind := by decide +kernel
theorem fX12_readsKind_53 : Cond.fieldLink RX12 53 "SlopeCoinsModel" "numbers" "[I" ∈ wsX12_readsKind := by decide +kernel
theorem fX12_readsKind_119 : Cond.fieldLink RX12 119 "SlopeCoinsModel" "readKinds" "I" ∈ wsX12_readsKind := by decide +kernel
set_option maxRecDepth 100000 in
set_option maxHeartbeats 4000000 in
theorem wX12_readsKind_66 {l : Launch} {D : va_G} {cI cZ : ClassId} {ad : Nat → Nat} {a : Program × Env × State × MethodId} {b : Array Value × List Frame × Method × Code × (State → Prop) × Nat} {A : Nat → Prop} (K : KS (GM l 3 72 D cI cZ ad a b A) cX12_readsKind RX12 wsX12_readsKind (some .boolean)) (hn : x_n (GM l 3 72 D cI cZ ad a b A) = 2) {res : (Int32 × St)} (hR : HRi (GM l 3 72 D cI cZ ad a b A) cX12_readsKind zb res) : ∀ (σ : St), mX12_readsKind_66 σ = some res → Wk (GM l 3 72 D cI cZ ad a b A) 66 [(0, .ref (ad 0))] [] σ := by
  intro σ h
  unfold mX12_readsKind_66 at h
  refine k_aload_n K dX12_readsKind_66 0 rfl ?_
  refine k_dup K dX12_readsKind_67 rfl ?_
  refine k_get K 0 12 26 iX12_readsKind_X12 (Nat.le_of_ble_eq_true rfl) ((mM_0 cI cZ ad) _) rfl (by decide) fX12_readsKind_119 rfl dX12_readsKind_68 ?_
  refine k_iconst (x := 1) K dX12_readsKind_71 (by decide) ?_
  refine k_iadd K dX12_readsKind_72 ?_
  have h := lt_some h
  refine k_putI K 0 12 26 tyX12 tyX12_ok nmX12 iX12_readsKind_X12 (Nat.le_of_ble_eq_true rfl) ((mM_0 cI cZ ad) _) rfl (by decide) fX12_readsKind_119 rfl (by decide +kernel) (Nat.le_of_ble_eq_true rfl) (pM_0_26 cI cZ ad _ _) dX12_readsKind_73 ?_
  refine k_iconst (x := 1) K dX12_readsKind_76 (by decide) ?_
  exact ret_i hR h dX12_readsKind_77 zb_1
set_option maxRecDepth 100000 in
set_option maxHeartbeats 4000000 in
theorem wX12_readsKind_36 {l : Launch} {D : va_G} {cI cZ : ClassId} {ad : Nat → Nat} {a : Program × Env × State × MethodId} {b : Array Value × List Frame × Method × Code × (State → Prop) × Nat} {A : Nat → Prop} {k66 : St → Option (Int32 × St)} (K : KS (GM l 3 72 D cI cZ ad a b A) cX12_readsKind RX12 wsX12_readsKind (some .boolean)) (hn : x_n (GM l 3 72 D cI cZ ad a b A) = 2) {res : (Int32 × St)} (hR : HRi (GM l 3 72 D cI cZ ad a b A) cX12_readsKind zb res) (hk66 : ∀ (σ : St), k66 σ = some res → Wk (GM l 3 72 D cI cZ ad a b A) 66 [(0, .ref (ad 0))] [] σ) : ∀ (n : Nat) (v1 : Int32) (σ : St), mX12_readsKind_36 k66 n v1 σ = some res → Wk (GM l 3 72 D cI cZ ad a b A) 36 [(0, .ref (ad 0)), (1, .int v1)] [] σ := by
  intro n
  induction n with
  | zero => intro v1 σ h; cases h
  | succ n ih =>
    intro v1 σ h
    unfold mX12_readsKind_36 at h
    refine k_iload_n K dX12_readsKind_36 1 rfl ?_
    refine k_iconst (x := 3) K dX12_readsKind_37 (by decide) ?_
    refine k_icmp_ge (tgt := 66) K dX12_readsKind_38 (by decide) (fun q => ?_) (fun q => ?_)
    · have h := if_f q h
      exact k_sub [0] rfl (hk66  _ h)
    · have h := if_t q h
      refine k_aload_n K dX12_readsKind_41 0 rfl ?_
      refine k_get K 0 12 27 iX12_readsKind_X12 (Nat.le_of_ble_eq_true rfl) ((mM_0 cI cZ ad) _) rfl (by decide) fX12_readsKind_50 rfl dX12_readsKind_42 ?_
      refine k_iconst (x := 3) K dX12_readsKind_45 (by decide) ?_
      refine k_aload_n K dX12_readsKind_46 0 rfl ?_
      refine k_get K 0 12 26 iX12_readsKind_X12 (Nat.le_of_ble_eq_true rfl) ((mM_0 cI cZ ad) _) rfl (by decide) fX12_readsKind_119 rfl dX12_readsKind_47 ?_
      refine k_imul K dX12_readsKind_50 ?_
      refine k_iload_n K dX12_readsKind_51 1 rfl ?_
      refine k_iadd K dX12_readsKind_52 ?_
      refine k_aload_n K dX12_readsKind_53 0 rfl ?_
      refine k_get K 0 12 29 iX12_readsKind_X12 (Nat.le_of_ble_eq_true rfl) ((mM_0 cI cZ ad) _) rfl (by decide) fX12_readsKind_53 rfl dX12_readsKind_54 ?_
      refine k_iload_n K dX12_readsKind_57 1 rfl ?_
      obtain ⟨g11, h⟩ := gd_some h
      refine k_ild K 15 0 (Nat.le_of_ble_eq_true rfl) ((mM_15 cI cZ ad) _) rfl g11 dX12_readsKind_58 ?_
      obtain ⟨g12, h⟩ := gd_some h
      have h := lt_some h
      refine k_ist K 14 0 (Nat.le_of_ble_eq_true rfl) (mM_14 cI cZ ad) rfl g12 dX12_readsKind_59 ?_
      have h := lt_some h
      refine k_iinc (lv' := [(1, _), (0, _)]) K dX12_readsKind_60 1 rfl (v := _ + 1) (by rfl) (by rw [hn]; decide) rfl ?_
      refine k_goto (tgt := 36) K dX12_readsKind_63 (by decide) ?_
      exact k_sub [1, 0] rfl (ih _ _ h)
set_option maxRecDepth 100000 in
set_option maxHeartbeats 4000000 in
theorem ctX12_readsKind {l : Launch} {D : va_G} {cI cZ : ClassId} {ad : Nat → Nat} {σ : St} {res : (Int32 × St)} (h : mX12_readsKind σ = some res) : Ci l yX12_readsKind wsX12_readsKind 3 72 D vwCl (tysM cI cZ) nwM (mkM cI cZ ad) ad 17 [.ref (ad 0)] σ res := by
  refine c_bool (cc := cX12_readsKind) (maxL := 2) (by decide) rfl (Nat.le_of_ble_eq_true rfl) fun a b hn K hR => ?_
  unfold mX12_readsKind at h
  have K : KS (GM l 3 72 D cI cZ ad a b (w_A ad 17)) cX12_readsKind RX12 wsX12_readsKind (some .boolean) := K
  have hn : x_n (GM l 3 72 D cI cZ ad a b (w_A ad 17)) = 2 := hn
  refine k_sub [0] rfl ?_
  refine k_aload_n K dX12_readsKind_0 0 rfl ?_
  refine k_iconst (x := 0) K dX12_readsKind_1 (by decide) ?_
  refine k_iconst (x := 1) K dX12_readsKind_2 (by decide) ?_
  refine k_bipush (x := 9) K dX12_readsKind_3 (by decide) ?_
  obtain ⟨⟨r1, s2⟩, e3, h⟩ := bd_some h
  dsimp only at h
  refine k_callVi K 0 12 (Nat.le_of_ble_eq_true rfl) ((mM_0 cI cZ ad) _) rfl (ctX12_reads e3) (cwV 3 K.ts gX12_readsKind_X12_reads rfl rfl rfl hVX12_reads ⟨Nat.le_of_ble_eq_true rfl, Nat.le_of_ble_eq_true rfl⟩) rfl rfl (Nat.le_of_ble_eq_true rfl) dX12_readsKind_5 ?_
  refine k_if_eq (tgt := 32) K dX12_readsKind_8 (by decide) (fun q => ?_) (fun q => ?_)
  · have h := if_t q h
    refine k_iconst (x := 0) K dX12_readsKind_32 (by decide) ?_
    exact ret_i hR h dX12_readsKind_33 zb_0
  · have h := if_f q h
    refine k_aload_n K dX12_readsKind_11 0 rfl ?_
    refine k_iconst (x := 1) K dX12_readsKind_12 (by decide) ?_
    refine k_iconst (x := 1) K dX12_readsKind_13 (by decide) ?_
    refine k_bipush (x := 99) K dX12_readsKind_14 (by decide) ?_
    obtain ⟨⟨r4, s5⟩, e6, h⟩ := bd_some h
    dsimp only at h
    refine k_callVi K 0 12 (Nat.le_of_ble_eq_true rfl) ((mM_0 cI cZ ad) _) rfl (ctX12_reads e6) (cwV 3 K.ts gX12_readsKind_X12_reads rfl rfl rfl hVX12_reads ⟨Nat.le_of_ble_eq_true rfl, Nat.le_of_ble_eq_true rfl⟩) rfl rfl (Nat.le_of_ble_eq_true rfl) dX12_readsKind_16 ?_
    refine k_if_eq (tgt := 32) K dX12_readsKind_19 (by decide) (fun q => ?_) (fun q => ?_)
    · have h := if_t q h
      refine k_iconst (x := 0) K dX12_readsKind_32 (by decide) ?_
      exact ret_i hR h dX12_readsKind_33 zb_0
    · have h := if_f q h
      refine k_aload_n K dX12_readsKind_22 0 rfl ?_
      refine k_iconst (x := 2) K dX12_readsKind_23 (by decide) ?_
      refine k_iconst (x := 0) K dX12_readsKind_24 (by decide) ?_
      refine k_iconst (x := 1) K dX12_readsKind_25 (by decide) ?_
      obtain ⟨⟨r7, s8⟩, e9, h⟩ := bd_some h
      dsimp only at h
      refine k_callVi K 0 12 (Nat.le_of_ble_eq_true rfl) ((mM_0 cI cZ ad) _) rfl (ctX12_reads e9) (cwV 3 K.ts gX12_readsKind_X12_reads rfl rfl rfl hVX12_reads ⟨Nat.le_of_ble_eq_true rfl, Nat.le_of_ble_eq_true rfl⟩) rfl rfl (Nat.le_of_ble_eq_true rfl) dX12_readsKind_26 ?_
      refine k_if_ne (tgt := 34) K dX12_readsKind_29 (by decide) (fun q => ?_) (fun q => ?_)
      · have h := if_f q h
        refine k_iconst (x := 0) K dX12_readsKind_34 (by decide) ?_
        refine k_istore_n (lv' := [(1, _), (0, _)]) K dX12_readsKind_35 (by rw [hn]; decide) rfl ?_
        exact k_sub [1, 0] rfl (wX12_readsKind_36 K hn hR (fun  σ h => wX12_readsKind_66 K hn hR  σ h) FU _ _ h)
      · have h := if_t q h
        refine k_iconst (x := 0) K dX12_readsKind_32 (by decide) ?_
        exact ret_i hR h dX12_readsKind_33 zb_0
-- X12_readsItem (5, 114)
theorem iX12_readsItem_X12 : ∀ w ∈ wsX120, w ∈ wsX12_readsItem := fun _ h => List.mem_cons_of_mem _ (List.mem_append_right _ h)
theorem fX12_readsItem_17 : Cond.fieldLink RX12 17 "SlopeCoinsModel" "text" "[I" ∈ wsX12_readsItem := by decide +kernel
theorem fX12_readsItem_72 : Cond.fieldLink RX12 72 "SlopeCoinsModel" "length" "I" ∈ wsX12_readsItem := by decide +kernel
theorem fX12_readsItem_81 : Cond.fieldLink RX12 81 "SlopeCoinsModel" "place" "I" ∈ wsX12_readsItem := by decide +kernel
theorem fX12_readsItem_88 : Cond.fieldLink RX12 88 "SlopeCoinsModel" "end" "I" ∈ wsX12_readsItem := by decide +kernel
theorem fX12_readsItem_116 : Cond.fieldLink RX12 116 "SlopeCoinsModel" "readGratingMany" "I" ∈ wsX12_readsItem := by decide +kernel
theorem fX12_readsItem_119 : Cond.fieldLink RX12 119 "SlopeCoinsModel" "readKinds" "I" ∈ wsX12_readsItem := by decide +kernel
theorem fX12_readsItem_122 : Cond.fieldLink RX12 122 "SlopeCoinsModel" "readMany" "I" ∈ wsX12_readsItem := by decide +kernel
set_option maxRecDepth 100000 in
set_option maxHeartbeats 4000000 in
theorem wX12_readsItem_141 {l : Launch} {D : va_G} {cI cZ : ClassId} {ad : Nat → Nat} {a : Program × Env × State × MethodId} {b : Array Value × List Frame × Method × Code × (State → Prop) × Nat} {A : Nat → Prop} (K : KS (GM l 5 114 D cI cZ ad a b A) cX12_readsItem RX12 wsX12_readsItem (some .boolean)) (hn : x_n (GM l 5 114 D cI cZ ad a b A) = 4) {res : (Int32 × St)} (hR : HRi (GM l 5 114 D cI cZ ad a b A) cX12_readsItem zb res) : ∀ (t0 : Int32), ∀ (σ : St), mX12_readsItem_141 t0 σ = some res → Wk (GM l 5 114 D cI cZ ad a b A) 141 [(0, .ref (ad 0))] [.int t0] σ := by
  intro t0 σ h
  unfold mX12_readsItem_141 at h
  refine k_istore_n (lv' := [(3, _), (0, _)]) K dX12_readsItem_141 (by rw [hn]; decide) rfl ?_
  refine k_iload_n K dX12_readsItem_142 0 rfl ?_
  refine k_if_eq (tgt := 171) K dX12_readsItem_143 (by decide) (fun q => ?_) (fun q => ?_)
  · have h := if_t q h
    refine k_iconst (x := 0) K dX12_readsItem_171 (by decide) ?_
    exact ret_i hR h dX12_readsItem_172 zb_0
  · have h := if_f q h
    refine k_aload_n K dX12_readsItem_146 1 rfl ?_
    refine k_get K 0 12 18 iX12_readsItem_X12 (Nat.le_of_ble_eq_true rfl) ((mM_0 cI cZ ad) _) rfl (by decide) fX12_readsItem_81 rfl dX12_readsItem_147 ?_
    refine k_aload_n K dX12_readsItem_150 1 rfl ?_
    refine k_get K 0 12 3 iX12_readsItem_X12 (Nat.le_of_ble_eq_true rfl) ((mM_0 cI cZ ad) _) rfl (by decide) fX12_readsItem_72 rfl dX12_readsItem_151 ?_
    refine k_icmp_eq (tgt := 171) K dX12_readsItem_154 (by decide) (fun q => ?_) (fun q => ?_)
    · have h := if_t q h
      refine k_iconst (x := 0) K dX12_readsItem_171 (by decide) ?_
      exact ret_i hR h dX12_readsItem_172 zb_0
    · have h := if_f q h
      refine k_aload_n K dX12_readsItem_157 1 rfl ?_
      refine k_get K 0 12 2 iX12_readsItem_X12 (Nat.le_of_ble_eq_true rfl) ((mM_0 cI cZ ad) _) rfl (by decide) fX12_readsItem_17 rfl dX12_readsItem_158 ?_
      refine k_aload_n K dX12_readsItem_161 1 rfl ?_
      refine k_get K 0 12 18 iX12_readsItem_X12 (Nat.le_of_ble_eq_true rfl) ((mM_0 cI cZ ad) _) rfl (by decide) fX12_readsItem_81 rfl dX12_readsItem_162 ?_
      obtain ⟨g7, h⟩ := gd_some h
      refine k_ild K 3 0 (Nat.le_of_ble_eq_true rfl) ((mM_3 cI cZ ad) _) rfl g7 dX12_readsItem_165 ?_
      refine k_bipush (x := 59) K dX12_readsItem_166 (by decide) ?_
      refine k_icmp_eq (tgt := 173) K dX12_readsItem_168 (by decide) (fun q => ?_) (fun q => ?_)
      · have h := if_t q h
        refine k_aload_n K dX12_readsItem_173 1 rfl ?_
        obtain ⟨⟨r8, s9⟩, e10, h⟩ := bd_some h
        dsimp only at h
        refine k_callVv K 0 12 (Nat.le_of_ble_eq_true rfl) ((mM_0 cI cZ ad) _) rfl (ctX12_token e10) (cwV 0 K.ts gX12_readsItem_X12_token rfl rfl rfl hVX12_token ⟨Nat.le_of_ble_eq_true rfl, Nat.le_of_ble_eq_true rfl⟩) rfl rfl (Nat.le_of_ble_eq_true rfl) dX12_readsItem_174 ?_
        refine k_aload_n K dX12_readsItem_177 1 rfl ?_
        refine k_dup K dX12_readsItem_178 rfl ?_
        refine k_get K 0 12 28 iX12_readsItem_X12 (Nat.le_of_ble_eq_true rfl) ((mM_0 cI cZ ad) _) rfl (by decide) fX12_readsItem_122 rfl dX12_readsItem_179 ?_
        refine k_iconst (x := 1) K dX12_readsItem_182 (by decide) ?_
        refine k_iadd K dX12_readsItem_183 ?_
        have h := lt_some h
        refine k_putI K 0 12 28 tyX12 tyX12_ok nmX12 iX12_readsItem_X12 (Nat.le_of_ble_eq_true rfl) ((mM_0 cI cZ ad) _) rfl (by decide) fX12_readsItem_122 rfl (by decide +kernel) (Nat.le_of_ble_eq_true rfl) (pM_0_28 cI cZ ad _ _) dX12_readsItem_184 ?_
        refine k_iconst (x := 1) K dX12_readsItem_187 (by decide) ?_
        exact ret_i hR h dX12_readsItem_188 zb_1
      · have h := if_f q h
        refine k_iconst (x := 0) K dX12_readsItem_171 (by decide) ?_
        exact ret_i hR h dX12_readsItem_172 zb_0
set_option maxRecDepth 100000 in
set_option maxHeartbeats 4000000 in
theorem wX12_readsItem_87 {l : Launch} {D : va_G} {cI cZ : ClassId} {ad : Nat → Nat} {a : Program × Env × State × MethodId} {b : Array Value × List Frame × Method × Code × (State → Prop) × Nat} {A : Nat → Prop} (K : KS (GM l 5 114 D cI cZ ad a b A) cX12_readsItem RX12 wsX12_readsItem (some .boolean)) (hn : x_n (GM l 5 114 D cI cZ ad a b A) = 4) {res : (Int32 × St)} (hR : HRi (GM l 5 114 D cI cZ ad a b A) cX12_readsItem zb res) : ∀ (v1 : Int32), ∀ (t0 : Int32), ∀ (σ : St), mX12_readsItem_87 v1 t0 σ = some res → Wk (GM l 5 114 D cI cZ ad a b A) 87 [(0, .ref (ad 0)), (1, .int v1)] [.int t0] σ := by
  intro v1 t0 σ h
  unfold mX12_readsItem_87 at h
  refine k_istore_n (lv' := [(2, _), (0, _), (1, _)]) K dX12_readsItem_87 (by rw [hn]; decide) rfl ?_
  refine k_iload_n K dX12_readsItem_88 0 rfl ?_
  refine k_if_ne (tgt := 94) K dX12_readsItem_89 (by decide) (fun q => ?_) (fun q => ?_)
  · have h := if_f q h
    refine k_aload_n K dX12_readsItem_94 1 rfl ?_
    obtain ⟨⟨r1, s2⟩, e3, h⟩ := bd_some h
    dsimp only at h
    refine k_callVv K 0 12 (Nat.le_of_ble_eq_true rfl) ((mM_0 cI cZ ad) _) rfl (ctX12_token e3) (cwV 0 K.ts gX12_readsItem_X12_token rfl rfl rfl hVX12_token ⟨Nat.le_of_ble_eq_true rfl, Nat.le_of_ble_eq_true rfl⟩) rfl rfl (Nat.le_of_ble_eq_true rfl) dX12_readsItem_95 ?_
    refine k_iload_n K dX12_readsItem_98 2 rfl ?_
    refine k_bipush (x := 103) K dX12_readsItem_99 (by decide) ?_
    refine k_icmp_ne (tgt := 111) K dX12_readsItem_101 (by decide) (fun q => ?_) (fun q => ?_)
    · have h := if_f q h
      refine k_iload_n K dX12_readsItem_111 2 rfl ?_
      refine k_bipush (x := 107) K dX12_readsItem_112 (by decide) ?_
      refine k_icmp_ne (tgt := 124) K dX12_readsItem_114 (by decide) (fun q => ?_) (fun q => ?_)
      · have h := if_f q h
        refine k_iload_n K dX12_readsItem_124 2 rfl ?_
        refine k_bipush (x := 111) K dX12_readsItem_125 (by decide) ?_
        refine k_icmp_ne (tgt := 137) K dX12_readsItem_127 (by decide) (fun q => ?_) (fun q => ?_)
        · have h := if_f q h
          refine k_aload_n K dX12_readsItem_137 1 rfl ?_
          obtain ⟨⟨r4, s5⟩, e6, h⟩ := bd_some h
          dsimp only at h
          refine k_callVi K 0 12 (Nat.le_of_ble_eq_true rfl) ((mM_0 cI cZ ad) _) rfl (ctX12_readsKind e6) (cwV 0 K.ts gX12_readsItem_X12_readsKind rfl rfl rfl hVX12_readsKind ⟨Nat.le_of_ble_eq_true rfl, Nat.le_of_ble_eq_true rfl⟩) rfl rfl (Nat.le_of_ble_eq_true rfl) dX12_readsItem_138 ?_
          exact k_sub [1] rfl (wX12_readsItem_141 K hn hR _ _ h)
        · have h := if_t q h
          refine k_aload_n K dX12_readsItem_130 1 rfl ?_
          obtain ⟨⟨r12, s13⟩, e14, h⟩ := bd_some h
          dsimp only at h
          refine k_callVi K 0 12 (Nat.le_of_ble_eq_true rfl) ((mM_0 cI cZ ad) _) rfl (ctX12_readsGrating e14) (cwV 0 K.ts gX12_readsItem_X12_readsGrating rfl rfl rfl hVX12_readsGrating ⟨Nat.le_of_ble_eq_true rfl, Nat.le_of_ble_eq_true rfl⟩) rfl rfl (Nat.le_of_ble_eq_true rfl) dX12_readsItem_131 ?_
          refine k_goto (tgt := 141) K dX12_readsItem_134 (by decide) ?_
          exact k_sub [1] rfl (wX12_readsItem_141 K hn hR _ _ h)
      · have h := if_t q h
        refine k_aload_n K dX12_readsItem_117 1 rfl ?_
        obtain ⟨⟨r15, s16⟩, e17, h⟩ := bd_some h
        dsimp only at h
        refine k_callVi K 0 12 (Nat.le_of_ble_eq_true rfl) ((mM_0 cI cZ ad) _) rfl (ctX12_readsKerb e17) (cwV 0 K.ts gX12_readsItem_X12_readsKerb rfl rfl rfl hVX12_readsKerb ⟨Nat.le_of_ble_eq_true rfl, Nat.le_of_ble_eq_true rfl⟩) rfl rfl (Nat.le_of_ble_eq_true rfl) dX12_readsItem_118 ?_
        refine k_goto (tgt := 141) K dX12_readsItem_121 (by decide) ?_
        exact k_sub [1] rfl (wX12_readsItem_141 K hn hR _ _ h)
    · have h := if_t q h
      refine k_aload_n K dX12_readsItem_104 1 rfl ?_
      obtain ⟨⟨r18, s19⟩, e20, h⟩ := bd_some h
      dsimp only at h
      refine k_callVi K 0 12 (Nat.le_of_ble_eq_true rfl) ((mM_0 cI cZ ad) _) rfl (ctX12_readsHeights e20) (cwV 0 K.ts gX12_readsItem_X12_readsHeights rfl rfl rfl hVX12_readsHeights ⟨Nat.le_of_ble_eq_true rfl, Nat.le_of_ble_eq_true rfl⟩) rfl rfl (Nat.le_of_ble_eq_true rfl) dX12_readsItem_105 ?_
      refine k_goto (tgt := 141) K dX12_readsItem_108 (by decide) ?_
      exact k_sub [1] rfl (wX12_readsItem_141 K hn hR _ _ h)
  · have h := if_t q h
    refine k_iconst (x := 0) K dX12_readsItem_92 (by decide) ?_
    exact ret_i hR h dX12_readsItem_93 zb_0
set_option maxRecDepth 100000 in
set_option maxHeartbeats 4000000 in
theorem wX12_readsItem_82 {l : Launch} {D : va_G} {cI cZ : ClassId} {ad : Nat → Nat} {a : Program × Env × State × MethodId} {b : Array Value × List Frame × Method × Code × (State → Prop) × Nat} {A : Nat → Prop} (K : KS (GM l 5 114 D cI cZ ad a b A) cX12_readsItem RX12 wsX12_readsItem (some .boolean)) (hn : x_n (GM l 5 114 D cI cZ ad a b A) = 4) {res : (Int32 × St)} (hR : HRi (GM l 5 114 D cI cZ ad a b A) cX12_readsItem zb res) : ∀ (v1 : Int32), ∀ (σ : St), mX12_readsItem_82 v1 σ = some res → Wk (GM l 5 114 D cI cZ ad a b A) 82 [(0, .ref (ad 0)), (1, .int v1)] [] σ := by
  intro v1 σ h
  unfold mX12_readsItem_82 at h
  refine k_iconst (x := 1) K dX12_readsItem_82 (by decide) ?_
  refine k_goto (tgt := 87) K dX12_readsItem_83 (by decide) ?_
  exact k_sub [0, 1] rfl (wX12_readsItem_87 K hn hR _ _ _ h)
set_option maxRecDepth 100000 in
set_option maxHeartbeats 4000000 in
theorem wX12_readsItem_86 {l : Launch} {D : va_G} {cI cZ : ClassId} {ad : Nat → Nat} {a : Program × Env × State × MethodId} {b : Array Value × List Frame × Method × Code × (State → Prop) × Nat} {A : Nat → Prop} (K : KS (GM l 5 114 D cI cZ ad a b A) cX12_readsItem RX12 wsX12_readsItem (some .boolean)) (hn : x_n (GM l 5 114 D cI cZ ad a b A) = 4) {res : (Int32 × St)} (hR : HRi (GM l 5 114 D cI cZ ad a b A) cX12_readsItem zb res) : ∀ (v1 : Int32), ∀ (σ : St), mX12_readsItem_86 v1 σ = some res → Wk (GM l 5 114 D cI cZ ad a b A) 86 [(0, .ref (ad 0)), (1, .int v1)] [] σ := by
  intro v1 σ h
  unfold mX12_readsItem_86 at h
  refine k_iconst (x := 0) K dX12_readsItem_86 (by decide) ?_
  exact k_sub [0, 1] rfl (wX12_readsItem_87 K hn hR _ _ _ h)
set_option maxRecDepth 100000 in
set_option maxHeartbeats 4000000 in
theorem wX12_readsItem_68 {l : Launch} {D : va_G} {cI cZ : ClassId} {ad : Nat → Nat} {a : Program × Env × State × MethodId} {b : Array Value × List Frame × Method × Code × (State → Prop) × Nat} {A : Nat → Prop} (K : KS (GM l 5 114 D cI cZ ad a b A) cX12_readsItem RX12 wsX12_readsItem (some .boolean)) (hn : x_n (GM l 5 114 D cI cZ ad a b A) = 4) {res : (Int32 × St)} (hR : HRi (GM l 5 114 D cI cZ ad a b A) cX12_readsItem zb res) : ∀ (v1 : Int32), ∀ (σ : St), mX12_readsItem_68 v1 σ = some res → Wk (GM l 5 114 D cI cZ ad a b A) 68 [(0, .ref (ad 0)), (1, .int v1)] [] σ := by
  intro v1 σ h
  unfold mX12_readsItem_68 at h
  refine k_iload_n K dX12_readsItem_68 1 rfl ?_
  refine k_bipush (x := 99) K dX12_readsItem_69 (by decide) ?_
  refine k_icmp_ne (tgt := 86) K dX12_readsItem_71 (by decide) (fun q => ?_) (fun q => ?_)
  · have h := if_f q h
    exact k_sub [0, 1] rfl (wX12_readsItem_86 K hn hR _ _ h)
  · have h := if_t q h
    refine k_aload_n K dX12_readsItem_74 0 rfl ?_
    refine k_get K 0 12 26 iX12_readsItem_X12 (Nat.le_of_ble_eq_true rfl) ((mM_0 cI cZ ad) _) rfl (by decide) fX12_readsItem_119 rfl dX12_readsItem_75 ?_
    refine k_iconst (x := 5) K dX12_readsItem_78 (by decide) ?_
    refine k_icmp_ge (tgt := 86) K dX12_readsItem_79 (by decide) (fun q => ?_) (fun q => ?_)
    · have h := if_f q h
      exact k_sub [0, 1] rfl (wX12_readsItem_86 K hn hR _ _ h)
    · have h := if_t q h
      exact k_sub [0, 1] rfl (wX12_readsItem_82 K hn hR _ _ h)
set_option maxRecDepth 100000 in
set_option maxHeartbeats 4000000 in
theorem wX12_readsItem_26 {l : Launch} {D : va_G} {cI cZ : ClassId} {ad : Nat → Nat} {a : Program × Env × State × MethodId} {b : Array Value × List Frame × Method × Code × (State → Prop) × Nat} {A : Nat → Prop} (K : KS (GM l 5 114 D cI cZ ad a b A) cX12_readsItem RX12 wsX12_readsItem (some .boolean)) (hn : x_n (GM l 5 114 D cI cZ ad a b A) = 4) {res : (Int32 × St)} (hR : HRi (GM l 5 114 D cI cZ ad a b A) cX12_readsItem zb res) : ∀ (t0 : Int32), ∀ (σ : St), mX12_readsItem_26 t0 σ = some res → Wk (GM l 5 114 D cI cZ ad a b A) 26 [(0, .ref (ad 0))] [.int t0] σ := by
  intro t0 σ h
  unfold mX12_readsItem_26 at h
  refine k_istore_n (lv' := [(1, _), (0, _)]) K dX12_readsItem_26 (by rw [hn]; decide) rfl ?_
  refine k_aload_n K dX12_readsItem_27 1 rfl ?_
  refine k_get K 0 12 28 iX12_readsItem_X12 (Nat.le_of_ble_eq_true rfl) ((mM_0 cI cZ ad) _) rfl (by decide) fX12_readsItem_122 rfl dX12_readsItem_28 ?_
  refine k_if_ne (tgt := 48) K dX12_readsItem_31 (by decide) (fun q => ?_) (fun q => ?_)
  · have h := if_f q h
    refine k_iload_n K dX12_readsItem_48 0 rfl ?_
    refine k_bipush (x := 107) K dX12_readsItem_49 (by decide) ?_
    refine k_icmp_eq (tgt := 82) K dX12_readsItem_51 (by decide) (fun q => ?_) (fun q => ?_)
    · have h := if_t q h
      exact k_sub [1, 0] rfl (wX12_readsItem_82 K hn hR _ _ h)
    · have h := if_f q h
      refine k_iload_n K dX12_readsItem_54 0 rfl ?_
      refine k_bipush (x := 111) K dX12_readsItem_55 (by decide) ?_
      refine k_icmp_ne (tgt := 68) K dX12_readsItem_57 (by decide) (fun q => ?_) (fun q => ?_)
      · have h := if_f q h
        exact k_sub [1, 0] rfl (wX12_readsItem_68 K hn hR _ _ h)
      · have h := if_t q h
        refine k_aload_n K dX12_readsItem_60 1 rfl ?_
        refine k_get K 0 12 25 iX12_readsItem_X12 (Nat.le_of_ble_eq_true rfl) ((mM_0 cI cZ ad) _) rfl (by decide) fX12_readsItem_116 rfl dX12_readsItem_61 ?_
        refine k_iconst (x := 4) K dX12_readsItem_64 (by decide) ?_
        refine k_icmp_lt (tgt := 82) K dX12_readsItem_65 (by decide) (fun q => ?_) (fun q => ?_)
        · have h := if_t q h
          exact k_sub [1, 0] rfl (wX12_readsItem_82 K hn hR _ _ h)
        · have h := if_f q h
          exact k_sub [1, 0] rfl (wX12_readsItem_68 K hn hR _ _ h)
  · have h := if_t q h
    refine k_iload_n K dX12_readsItem_34 0 rfl ?_
    refine k_bipush (x := 103) K dX12_readsItem_35 (by decide) ?_
    refine k_icmp_ne (tgt := 44) K dX12_readsItem_37 (by decide) (fun q => ?_) (fun q => ?_)
    · have h := if_f q h
      refine k_iconst (x := 0) K dX12_readsItem_44 (by decide) ?_
      refine k_goto (tgt := 87) K dX12_readsItem_45 (by decide) ?_
      exact k_sub [1, 0] rfl (wX12_readsItem_87 K hn hR _ _ _ h)
    · have h := if_t q h
      refine k_iconst (x := 1) K dX12_readsItem_40 (by decide) ?_
      refine k_goto (tgt := 87) K dX12_readsItem_41 (by decide) ?_
      exact k_sub [1, 0] rfl (wX12_readsItem_87 K hn hR _ _ _ h)
set_option maxRecDepth 100000 in
set_option maxHeartbeats 4000000 in
theorem ctX12_readsItem {l : Launch} {D : va_G} {cI cZ : ClassId} {ad : Nat → Nat} {σ : St} {res : (Int32 × St)} (h : mX12_readsItem σ = some res) : Ci l yX12_readsItem wsX12_readsItem 5 114 D vwCl (tysM cI cZ) nwM (mkM cI cZ ad) ad 17 [.ref (ad 0)] σ res := by
  refine c_bool (cc := cX12_readsItem) (maxL := 4) (by decide) rfl (Nat.le_of_ble_eq_true rfl) fun a b hn K hR => ?_
  unfold mX12_readsItem at h
  have K : KS (GM l 5 114 D cI cZ ad a b (w_A ad 17)) cX12_readsItem RX12 wsX12_readsItem (some .boolean) := K
  have hn : x_n (GM l 5 114 D cI cZ ad a b (w_A ad 17)) = 4 := hn
  refine k_sub [0] rfl ?_
  refine k_aload_n K dX12_readsItem_0 0 rfl ?_
  refine k_get K 0 12 19 iX12_readsItem_X12 (Nat.le_of_ble_eq_true rfl) ((mM_0 cI cZ ad) _) rfl (by decide) fX12_readsItem_88 rfl dX12_readsItem_1 ?_
  refine k_aload_n K dX12_readsItem_4 0 rfl ?_
  refine k_get K 0 12 18 iX12_readsItem_X12 (Nat.le_of_ble_eq_true rfl) ((mM_0 cI cZ ad) _) rfl (by decide) fX12_readsItem_81 rfl dX12_readsItem_5 ?_
  refine k_isub K dX12_readsItem_8 ?_
  refine k_iconst (x := 1) K dX12_readsItem_9 (by decide) ?_
  refine k_icmp_ne (tgt := 25) K dX12_readsItem_10 (by decide) (fun q => ?_) (fun q => ?_)
  · have h := if_f q h
    refine k_iconst (x := 0) K dX12_readsItem_25 (by decide) ?_
    exact k_sub [0] rfl (wX12_readsItem_26 K hn hR _ _ h)
  · have h := if_t q h
    refine k_aload_n K dX12_readsItem_13 0 rfl ?_
    refine k_get K 0 12 2 iX12_readsItem_X12 (Nat.le_of_ble_eq_true rfl) ((mM_0 cI cZ ad) _) rfl (by decide) fX12_readsItem_17 rfl dX12_readsItem_14 ?_
    refine k_aload_n K dX12_readsItem_17 0 rfl ?_
    refine k_get K 0 12 18 iX12_readsItem_X12 (Nat.le_of_ble_eq_true rfl) ((mM_0 cI cZ ad) _) rfl (by decide) fX12_readsItem_81 rfl dX12_readsItem_18 ?_
    obtain ⟨g21, h⟩ := gd_some h
    refine k_ild K 3 0 (Nat.le_of_ble_eq_true rfl) ((mM_3 cI cZ ad) _) rfl g21 dX12_readsItem_21 ?_
    refine k_goto (tgt := 26) K dX12_readsItem_22 (by decide) ?_
    exact k_sub [0] rfl (wX12_readsItem_26 K hn hR _ _ h)
-- X12_fault (6, 137)
theorem iX12_fault_X12 : ∀ w ∈ wsX120, w ∈ wsX12_fault := fun _ h => List.mem_cons_of_mem _ (List.mem_append_right _ h)
theorem fX12_fault_44 : Cond.fieldLink RX12 44 "SlopeCoinsModel" "readKerbs" "[I" ∈ wsX12_fault := by decide +kernel
theorem fX12_fault_47 : Cond.fieldLink RX12 47 "SlopeCoinsModel" "readGratings" "[I" ∈ wsX12_fault := by decide +kernel
theorem fX12_fault_72 : Cond.fieldLink RX12 72 "SlopeCoinsModel" "length" "I" ∈ wsX12_fault := by decide +kernel
theorem fX12_fault_75 : Cond.fieldLink RX12 75 "SlopeCoinsModel" "at" "I" ∈ wsX12_fault := by decide +kernel
theorem fX12_fault_81 : Cond.fieldLink RX12 81 "SlopeCoinsModel" "place" "I" ∈ wsX12_fault := by decide +kernel
theorem fX12_fault_98 : Cond.fieldLink RX12 98 "SlopeCoinsModel" "readWide" "I" ∈ wsX12_fault := by decide +kernel
theorem fX12_fault_101 : Cond.fieldLink RX12 101 "SlopeCoinsModel" "readHigh" "I" ∈ wsX12_fault := by decide +kernel
theorem fX12_fault_116 : Cond.fieldLink RX12 116 "SlopeCoinsModel" "readGratingMany" "I" ∈ wsX12_fault := by decide +kernel
theorem fX12_fault_119 : Cond.fieldLink RX12 119 "SlopeCoinsModel" "readKinds" "I" ∈ wsX12_fault := by decide +kernel
theorem fX12_fault_122 : Cond.fieldLink RX12 122 "SlopeCoinsModel" "readMany" "I" ∈ wsX12_fault := by decide +kernel
set_option maxRecDepth 100000 in
set_option maxHeartbeats 4000000 in
theorem wX12_fault_94 {l : Launch} {D : va_G} {cI cZ : ClassId} {ad : Nat → Nat} {a : Program × Env × State × MethodId} {b : Array Value × List Frame × Method × Code × (State → Prop) × Nat} {A : Nat → Prop} (K : KS (GM l 6 137 D cI cZ ad a b A) cX12_fault RX12 wsX12_fault (some .int)) (hn : x_n (GM l 6 137 D cI cZ ad a b A) = 2) {res : (Int32 × St)} (hR : HRi (GM l 6 137 D cI cZ ad a b A) cX12_fault tb res) : ∀ (v1 : Int32), ∀ (σ : St), mX12_fault_94 v1 σ = some res → Wk (GM l 6 137 D cI cZ ad a b A) 94 [(0, .ref (ad 0)), (1, .int v1)] [] σ := by
  intro v1 σ h
  unfold mX12_fault_94 at h
  refine k_iload_n K dX12_fault_94 1 rfl ?_
  refine k_if_eq (tgt := 103) K dX12_fault_95 (by decide) (fun q => ?_) (fun q => ?_)
  · have h := if_t q h
    refine k_aload_n K dX12_fault_103 0 rfl ?_
    refine k_get K 0 12 18 iX12_fault_X12 (Nat.le_of_ble_eq_true rfl) ((mM_0 cI cZ ad) _) rfl (by decide) fX12_fault_81 rfl dX12_fault_104 ?_
    exact ret_i hR h dX12_fault_107 trivial
  · have h := if_f q h
    refine k_bipush (x := (-9)) K dX12_fault_98 (by decide) ?_
    refine k_goto (tgt := 107) K dX12_fault_100 (by decide) ?_
    exact ret_i hR h dX12_fault_107 trivial
set_option maxRecDepth 100000 in
set_option maxHeartbeats 4000000 in
theorem wX12_fault_71 {l : Launch} {D : va_G} {cI cZ : ClassId} {ad : Nat → Nat} {a : Program × Env × State × MethodId} {b : Array Value × List Frame × Method × Code × (State → Prop) × Nat} {A : Nat → Prop} {k94 : Int32 → St → Option (Int32 × St)} (K : KS (GM l 6 137 D cI cZ ad a b A) cX12_fault RX12 wsX12_fault (some .int)) (hn : x_n (GM l 6 137 D cI cZ ad a b A) = 2) {res : (Int32 × St)} (hR : HRi (GM l 6 137 D cI cZ ad a b A) cX12_fault tb res) (hk94 : ∀ (v1 : Int32) (σ : St), k94 v1 σ = some res → Wk (GM l 6 137 D cI cZ ad a b A) 94 [(0, .ref (ad 0)), (1, .int v1)] [] σ) : ∀ (n : Nat) (v1 : Int32) (σ : St), mX12_fault_71 k94 n v1 σ = some res → Wk (GM l 6 137 D cI cZ ad a b A) 71 [(0, .ref (ad 0)), (1, .int v1)] [] σ := by
  intro n
  induction n with
  | zero => intro v1 σ h; cases h
  | succ n ih =>
    intro v1 σ h
    unfold mX12_fault_71 at h
    refine k_iload_n K dX12_fault_71 1 rfl ?_
    refine k_if_eq (tgt := 94) K dX12_fault_72 (by decide) (fun q => ?_) (fun q => ?_)
    · have h := if_t q h
      exact k_sub [0, 1] rfl (hk94 _ _ h)
    · have h := if_f q h
      refine k_aload_n K dX12_fault_75 0 rfl ?_
      refine k_get K 0 12 18 iX12_fault_X12 (Nat.le_of_ble_eq_true rfl) ((mM_0 cI cZ ad) _) rfl (by decide) fX12_fault_81 rfl dX12_fault_76 ?_
      refine k_aload_n K dX12_fault_79 0 rfl ?_
      refine k_get K 0 12 3 iX12_fault_X12 (Nat.le_of_ble_eq_true rfl) ((mM_0 cI cZ ad) _) rfl (by decide) fX12_fault_72 rfl dX12_fault_80 ?_
      refine k_icmp_ge (tgt := 94) K dX12_fault_83 (by decide) (fun q => ?_) (fun q => ?_)
      · have h := if_f q h
        exact k_sub [0, 1] rfl (hk94 _ _ h)
      · have h := if_t q h
        refine k_aload_n K dX12_fault_86 0 rfl ?_
        obtain ⟨⟨r14, s15⟩, e16, h⟩ := bd_some h
        dsimp only at h
        refine k_callVi K 0 12 (Nat.le_of_ble_eq_true rfl) ((mM_0 cI cZ ad) _) rfl (ctX12_readsItem e16) (cwV 0 K.ts gX12_fault_X12_readsItem rfl rfl rfl hVX12_readsItem ⟨Nat.le_of_ble_eq_true rfl, Nat.le_of_ble_eq_true rfl⟩) rfl rfl (Nat.le_of_ble_eq_true rfl) dX12_fault_87 ?_
        refine k_istore_n (lv' := [(1, _), (0, _)]) K dX12_fault_90 (by rw [hn]; decide) rfl ?_
        refine k_goto (tgt := 71) K dX12_fault_91 (by decide) ?_
        exact k_sub [1, 0] rfl (ih _ _ h)
set_option maxRecDepth 100000 in
set_option maxHeartbeats 4000000 in
theorem wX12_fault_65 {l : Launch} {D : va_G} {cI cZ : ClassId} {ad : Nat → Nat} {a : Program × Env × State × MethodId} {b : Array Value × List Frame × Method × Code × (State → Prop) × Nat} {A : Nat → Prop} (K : KS (GM l 6 137 D cI cZ ad a b A) cX12_fault RX12 wsX12_fault (some .int)) (hn : x_n (GM l 6 137 D cI cZ ad a b A) = 2) {res : (Int32 × St)} (hR : HRi (GM l 6 137 D cI cZ ad a b A) cX12_fault tb res) : ∀ (σ : St), mX12_fault_65 σ = some res → Wk (GM l 6 137 D cI cZ ad a b A) 65 [(0, .ref (ad 0))] [] σ := by
  intro σ h
  unfold mX12_fault_65 at h
  refine k_aload_n K dX12_fault_65 0 rfl ?_
  obtain ⟨⟨r11, s12⟩, e13, h⟩ := bd_some h
  dsimp only at h
  refine k_callVv K 0 12 (Nat.le_of_ble_eq_true rfl) ((mM_0 cI cZ ad) _) rfl (ctX12_token e13) (cwV 0 K.ts gX12_fault_X12_token rfl rfl rfl hVX12_token ⟨Nat.le_of_ble_eq_true rfl, Nat.le_of_ble_eq_true rfl⟩) rfl rfl (Nat.le_of_ble_eq_true rfl) dX12_fault_66 ?_
  refine k_iconst (x := 1) K dX12_fault_69 (by decide) ?_
  refine k_istore_n (lv' := [(1, _), (0, _)]) K dX12_fault_70 (by rw [hn]; decide) rfl ?_
  exact k_sub [1, 0] rfl (wX12_fault_71 K hn hR (fun v1 σ h => wX12_fault_94 K hn hR v1 σ h) FU _ _ h)
set_option maxRecDepth 100000 in
set_option maxHeartbeats 4000000 in
theorem wX12_fault_46 {l : Launch} {D : va_G} {cI cZ : ClassId} {ad : Nat → Nat} {a : Program × Env × State × MethodId} {b : Array Value × List Frame × Method × Code × (State → Prop) × Nat} {A : Nat → Prop} {k65 : St → Option (Int32 × St)} (K : KS (GM l 6 137 D cI cZ ad a b A) cX12_fault RX12 wsX12_fault (some .int)) (hn : x_n (GM l 6 137 D cI cZ ad a b A) = 2) {res : (Int32 × St)} (hR : HRi (GM l 6 137 D cI cZ ad a b A) cX12_fault tb res) (hk65 : ∀ (σ : St), k65 σ = some res → Wk (GM l 6 137 D cI cZ ad a b A) 65 [(0, .ref (ad 0))] [] σ) : ∀ (n : Nat) (v1 : Int32) (σ : St), mX12_fault_46 k65 n v1 σ = some res → Wk (GM l 6 137 D cI cZ ad a b A) 46 [(0, .ref (ad 0)), (1, .int v1)] [] σ := by
  intro n
  induction n with
  | zero => intro v1 σ h; cases h
  | succ n ih =>
    intro v1 σ h
    unfold mX12_fault_46 at h
    refine k_iload_n K dX12_fault_46 1 rfl ?_
    refine k_bipush (x := 30) K dX12_fault_47 (by decide) ?_
    refine k_icmp_ge (tgt := 65) K dX12_fault_49 (by decide) (fun q => ?_) (fun q => ?_)
    · have h := if_f q h
      exact k_sub [0] rfl (hk65  _ h)
    · have h := if_t q h
      refine k_aload_n K dX12_fault_52 0 rfl ?_
      refine k_get K 0 12 24 iX12_fault_X12 (Nat.le_of_ble_eq_true rfl) ((mM_0 cI cZ ad) _) rfl (by decide) fX12_fault_47 rfl dX12_fault_53 ?_
      refine k_iload_n K dX12_fault_56 1 rfl ?_
      refine k_iconst (x := 0) K dX12_fault_57 (by decide) ?_
      obtain ⟨g17, h⟩ := gd_some h
      have h := lt_some h
      refine k_ist K 13 0 (Nat.le_of_ble_eq_true rfl) (mM_13 cI cZ ad) rfl g17 dX12_fault_58 ?_
      have h := lt_some h
      refine k_iinc (lv' := [(1, _), (0, _)]) K dX12_fault_59 1 rfl (v := _ + 1) (by rfl) (by rw [hn]; decide) rfl ?_
      refine k_goto (tgt := 46) K dX12_fault_62 (by decide) ?_
      exact k_sub [1, 0] rfl (ih _ _ h)
set_option maxRecDepth 100000 in
set_option maxHeartbeats 4000000 in
theorem ctX12_fault {l : Launch} {D : va_G} {cI cZ : ClassId} {ad : Nat → Nat} {σ : St} {res : (Int32 × St)} (h : mX12_fault σ = some res) : Ci l yX12_fault wsX12_fault 6 137 D vwCl (tysM cI cZ) nwM (mkM cI cZ ad) ad 17 [.ref (ad 0)] σ res := by
  refine c_int (cc := cX12_fault) (maxL := 2) (by decide) rfl (Nat.le_of_ble_eq_true rfl) fun a b hn K hR => ?_
  unfold mX12_fault at h
  have K : KS (GM l 6 137 D cI cZ ad a b (w_A ad 17)) cX12_fault RX12 wsX12_fault (some .int) := K
  have hn : x_n (GM l 6 137 D cI cZ ad a b (w_A ad 17)) = 2 := hn
  refine k_sub [0] rfl ?_
  refine k_aload_n K dX12_fault_0 0 rfl ?_
  refine k_iconst (x := 0) K dX12_fault_1 (by decide) ?_
  have h := lt_some h
  refine k_putI K 0 12 17 tyX12 tyX12_ok nmX12 iX12_fault_X12 (Nat.le_of_ble_eq_true rfl) ((mM_0 cI cZ ad) _) rfl (by decide) fX12_fault_75 rfl (by decide +kernel) (Nat.le_of_ble_eq_true rfl) (pM_0_17 cI cZ ad _ _) dX12_fault_2 ?_
  refine k_aload_n K dX12_fault_5 0 rfl ?_
  refine k_iconst (x := 0) K dX12_fault_6 (by decide) ?_
  have h := lt_some h
  refine k_putI K 0 12 28 tyX12 tyX12_ok nmX12 iX12_fault_X12 (Nat.le_of_ble_eq_true rfl) ((mM_0 cI cZ ad) _) rfl (by decide) fX12_fault_122 rfl (by decide +kernel) (Nat.le_of_ble_eq_true rfl) (pM_0_28 cI cZ ad _ _) dX12_fault_7 ?_
  refine k_aload_n K dX12_fault_10 0 rfl ?_
  refine k_iconst (x := 0) K dX12_fault_11 (by decide) ?_
  have h := lt_some h
  refine k_putI K 0 12 20 tyX12 tyX12_ok nmX12 iX12_fault_X12 (Nat.le_of_ble_eq_true rfl) ((mM_0 cI cZ ad) _) rfl (by decide) fX12_fault_98 rfl (by decide +kernel) (Nat.le_of_ble_eq_true rfl) (pM_0_20 cI cZ ad _ _) dX12_fault_12 ?_
  refine k_aload_n K dX12_fault_15 0 rfl ?_
  refine k_iconst (x := 0) K dX12_fault_16 (by decide) ?_
  have h := lt_some h
  refine k_putI K 0 12 21 tyX12 tyX12_ok nmX12 iX12_fault_X12 (Nat.le_of_ble_eq_true rfl) ((mM_0 cI cZ ad) _) rfl (by decide) fX12_fault_101 rfl (by decide +kernel) (Nat.le_of_ble_eq_true rfl) (pM_0_21 cI cZ ad _ _) dX12_fault_17 ?_
  refine k_aload_n K dX12_fault_20 0 rfl ?_
  refine k_iconst (x := 0) K dX12_fault_21 (by decide) ?_
  have h := lt_some h
  refine k_putI K 0 12 25 tyX12 tyX12_ok nmX12 iX12_fault_X12 (Nat.le_of_ble_eq_true rfl) ((mM_0 cI cZ ad) _) rfl (by decide) fX12_fault_116 rfl (by decide +kernel) (Nat.le_of_ble_eq_true rfl) (pM_0_25 cI cZ ad _ _) dX12_fault_22 ?_
  refine k_aload_n K dX12_fault_25 0 rfl ?_
  refine k_iconst (x := 0) K dX12_fault_26 (by decide) ?_
  have h := lt_some h
  refine k_putI K 0 12 26 tyX12 tyX12_ok nmX12 iX12_fault_X12 (Nat.le_of_ble_eq_true rfl) ((mM_0 cI cZ ad) _) rfl (by decide) fX12_fault_119 rfl (by decide +kernel) (Nat.le_of_ble_eq_true rfl) (pM_0_26 cI cZ ad _ _) dX12_fault_27 ?_
  refine k_aload_n K dX12_fault_30 0 rfl ?_
  refine k_get K 0 12 23 iX12_fault_X12 (Nat.le_of_ble_eq_true rfl) ((mM_0 cI cZ ad) _) rfl (by decide) fX12_fault_44 rfl dX12_fault_31 ?_
  refine k_iconst (x := 0) K dX12_fault_34 (by decide) ?_
  refine k_iconst (x := 0) K dX12_fault_35 (by decide) ?_
  obtain ⟨g7, h⟩ := gd_some h
  have h := lt_some h
  refine k_ist K 12 0 (Nat.le_of_ble_eq_true rfl) (mM_12 cI cZ ad) rfl g7 dX12_fault_36 ?_
  refine k_aload_n K dX12_fault_37 0 rfl ?_
  refine k_get K 0 12 23 iX12_fault_X12 (Nat.le_of_ble_eq_true rfl) ((mM_0 cI cZ ad) _) rfl (by decide) fX12_fault_44 rfl dX12_fault_38 ?_
  refine k_iconst (x := 1) K dX12_fault_41 (by decide) ?_
  refine k_iconst (x := 0) K dX12_fault_42 (by decide) ?_
  obtain ⟨g9, h⟩ := gd_some h
  have h := lt_some h
  refine k_ist K 12 0 (Nat.le_of_ble_eq_true rfl) (mM_12 cI cZ ad) rfl g9 dX12_fault_43 ?_
  refine k_iconst (x := 0) K dX12_fault_44 (by decide) ?_
  refine k_istore_n (lv' := [(1, _), (0, _)]) K dX12_fault_45 (by rw [hn]; decide) rfl ?_
  exact k_sub [1, 0] rfl (wX12_fault_46 K hn hR (fun  σ h => wX12_fault_65 K hn hR  σ h) FU _ _ h)
-- X12_city (7, 158)
theorem iX12_city_X12 : ∀ w ∈ wsX120, w ∈ wsX12_city := fun _ h => List.mem_cons_of_mem _ (List.mem_append_right _ h)
theorem fX12_city_7 : Cond.fieldLink RX12 7 "SlopeCoinsModel" "row" "[I" ∈ wsX12_city := by decide +kernel
theorem fX12_city_13 : Cond.fieldLink RX12 13 "SlopeCoinsModel" "isKept" "[Z" ∈ wsX12_city := by decide +kernel
theorem fX12_city_20 : Cond.fieldLink RX12 20 "SlopeCoinsModel" "told" "[I" ∈ wsX12_city := by decide +kernel
theorem fX12_city_23 : Cond.fieldLink RX12 23 "SlopeCoinsModel" "gratings" "[I" ∈ wsX12_city := by decide +kernel
theorem fX12_city_26 : Cond.fieldLink RX12 26 "SlopeCoinsModel" "kerbs" "[I" ∈ wsX12_city := by decide +kernel
theorem fX12_city_29 : Cond.fieldLink RX12 29 "SlopeCoinsModel" "sizes" "[I" ∈ wsX12_city := by decide +kernel
theorem fX12_city_32 : Cond.fieldLink RX12 32 "SlopeCoinsModel" "worths" "[I" ∈ wsX12_city := by decide +kernel
theorem fX12_city_35 : Cond.fieldLink RX12 35 "SlopeCoinsModel" "forged" "[I" ∈ wsX12_city := by decide +kernel
theorem fX12_city_41 : Cond.fieldLink RX12 41 "SlopeCoinsModel" "readHeights" "[I" ∈ wsX12_city := by decide +kernel
theorem fX12_city_44 : Cond.fieldLink RX12 44 "SlopeCoinsModel" "readKerbs" "[I" ∈ wsX12_city := by decide +kernel
theorem fX12_city_47 : Cond.fieldLink RX12 47 "SlopeCoinsModel" "readGratings" "[I" ∈ wsX12_city := by decide +kernel
theorem fX12_city_50 : Cond.fieldLink RX12 50 "SlopeCoinsModel" "readKind" "[I" ∈ wsX12_city := by decide +kernel
theorem fX12_city_72 : Cond.fieldLink RX12 72 "SlopeCoinsModel" "length" "I" ∈ wsX12_city := by decide +kernel
theorem fX12_city_98 : Cond.fieldLink RX12 98 "SlopeCoinsModel" "readWide" "I" ∈ wsX12_city := by decide +kernel
theorem fX12_city_101 : Cond.fieldLink RX12 101 "SlopeCoinsModel" "readHigh" "I" ∈ wsX12_city := by decide +kernel
theorem fX12_city_116 : Cond.fieldLink RX12 116 "SlopeCoinsModel" "readGratingMany" "I" ∈ wsX12_city := by decide +kernel
theorem fX12_city_119 : Cond.fieldLink RX12 119 "SlopeCoinsModel" "readKinds" "I" ∈ wsX12_city := by decide +kernel
theorem fX12_city_122 : Cond.fieldLink RX12 122 "SlopeCoinsModel" "readMany" "I" ∈ wsX12_city := by decide +kernel
theorem fX12_city_143 : Cond.fieldLink RX12 143 "SlopeCoinsModel" "wide" "I" ∈ wsX12_city := by decide +kernel
theorem fX12_city_146 : Cond.fieldLink RX12 146 "SlopeCoinsModel" "high" "I" ∈ wsX12_city := by decide +kernel
theorem fX12_city_149 : Cond.fieldLink RX12 149 "SlopeCoinsModel" "kinds" "I" ∈ wsX12_city := by decide +kernel
theorem fX12_city_152 : Cond.fieldLink RX12 152 "SlopeCoinsModel" "gratingMany" "I" ∈ wsX12_city := by decide +kernel
theorem fX12_city_157 : Cond.fieldLink RX12 157 "SlopeCoinsModel" "seenMany" "I" ∈ wsX12_city := by decide +kernel
set_option maxRecDepth 100000 in
set_option maxHeartbeats 4000000 in
theorem wX12_city_234 {l : Launch} {D : va_G} {cI cZ : ClassId} {ad : Nat → Nat} {a : Program × Env × State × MethodId} {b : Array Value × List Frame × Method × Code × (State → Prop) × Nat} {A : Nat → Prop} (K : KS (GM l 7 158 D cI cZ ad a b A) cX12_city RX12 wsX12_city (some .int)) (hn : x_n (GM l 7 158 D cI cZ ad a b A) = 3) {res : (Int32 × St)} (hR : HRi (GM l 7 158 D cI cZ ad a b A) cX12_city tb res) : ∀ (σ : St), mX12_city_234 σ = some res → Wk (GM l 7 158 D cI cZ ad a b A) 234 [(0, .ref (ad 0))] [] σ := by
  intro σ h
  unfold mX12_city_234 at h
  refine k_aload_n K dX12_city_234 0 rfl ?_
  refine k_get K 0 12 1 iX12_city_X12 (Nat.le_of_ble_eq_true rfl) ((mM_0 cI cZ ad) _) rfl (by decide) fX12_city_13 rfl dX12_city_235 ?_
  refine k_iconst (x := 0) K dX12_city_238 (by decide) ?_
  refine k_iconst (x := 0) K dX12_city_239 (by decide) ?_
  obtain ⟨g14, h⟩ := gd_some h
  have h := lt_some h
  refine k_zst K 2 1 (Nat.le_of_ble_eq_true rfl) (mM_2 cI cZ ad) rfl g14 (by decide +kernel) dX12_city_240 ?_
  refine k_aload_n K dX12_city_241 0 rfl ?_
  refine k_get K 0 12 1 iX12_city_X12 (Nat.le_of_ble_eq_true rfl) ((mM_0 cI cZ ad) _) rfl (by decide) fX12_city_13 rfl dX12_city_242 ?_
  refine k_iconst (x := 1) K dX12_city_245 (by decide) ?_
  refine k_iconst (x := 0) K dX12_city_246 (by decide) ?_
  obtain ⟨g16, h⟩ := gd_some h
  have h := lt_some h
  refine k_zst K 2 1 (Nat.le_of_ble_eq_true rfl) (mM_2 cI cZ ad) rfl g16 (by decide +kernel) dX12_city_247 ?_
  refine k_aload_n K dX12_city_248 0 rfl ?_
  refine k_iconst (x := 0) K dX12_city_249 (by decide) ?_
  have h := lt_some h
  refine k_putI K 0 12 15 tyX12 tyX12_ok nmX12 iX12_city_X12 (Nat.le_of_ble_eq_true rfl) ((mM_0 cI cZ ad) _) rfl (by decide) fX12_city_157 rfl (by decide +kernel) (Nat.le_of_ble_eq_true rfl) (pM_0_15 cI cZ ad _ _) dX12_city_250 ?_
  refine k_aload_n K dX12_city_253 0 rfl ?_
  refine k_iconst (x := 0) K dX12_city_254 (by decide) ?_
  have h := lt_some h
  refine k_putI K 0 12 3 tyX12 tyX12_ok nmX12 iX12_city_X12 (Nat.le_of_ble_eq_true rfl) ((mM_0 cI cZ ad) _) rfl (by decide) fX12_city_72 rfl (by decide +kernel) (Nat.le_of_ble_eq_true rfl) (pM_0_3 cI cZ ad _ _) dX12_city_255 ?_
  refine k_aload_n K dX12_city_258 0 rfl ?_
  refine k_get K 0 12 28 iX12_city_X12 (Nat.le_of_ble_eq_true rfl) ((mM_0 cI cZ ad) _) rfl (by decide) fX12_city_122 rfl dX12_city_259 ?_
  exact ret_i hR h dX12_city_262 trivial
set_option maxRecDepth 100000 in
set_option maxHeartbeats 4000000 in
theorem wX12_city_227 {l : Launch} {D : va_G} {cI cZ : ClassId} {ad : Nat → Nat} {a : Program × Env × State × MethodId} {b : Array Value × List Frame × Method × Code × (State → Prop) × Nat} {A : Nat → Prop} {k234 : St → Option (Int32 × St)} {rc : Int32 → St → Option (Int32 × St)} (K : KS (GM l 7 158 D cI cZ ad a b A) cX12_city RX12 wsX12_city (some .int)) (hn : x_n (GM l 7 158 D cI cZ ad a b A) = 3) {res : (Int32 × St)} (hR : HRi (GM l 7 158 D cI cZ ad a b A) cX12_city tb res) (hk234 : ∀ (σ : St), k234 σ = some res → Wk (GM l 7 158 D cI cZ ad a b A) 234 [(0, .ref (ad 0))] [] σ) (hrc : ∀ (v2 : Int32) (σ : St), rc v2 σ = some res → Wk (GM l 7 158 D cI cZ ad a b A) 191 [(0, .ref (ad 0)), (2, .int v2)] [] σ) : ∀ (v2 : Int32), ∀ (t0 : Int32), ∀ (t1 : Int32), ∀ (σ : St), mX12_city_227 k234 rc v2 t0 t1 σ = some res → Wk (GM l 7 158 D cI cZ ad a b A) 227 [(0, .ref (ad 0)), (2, .int v2)] [.int t0, .int t1, .ref (ad 1)] σ := by
  intro v2 t0 t1 σ h
  unfold mX12_city_227 at h
  obtain ⟨g23, h⟩ := gd_some h
  have h := lt_some h
  refine k_ist K 1 0 (Nat.le_of_ble_eq_true rfl) (mM_1 cI cZ ad) rfl g23 dX12_city_227 ?_
  have h := lt_some h
  refine k_iinc (lv' := [(2, _), (0, _)]) K dX12_city_228 1 rfl (v := _ + 1) (by rfl) (by rw [hn]; decide) rfl ?_
  refine k_goto (tgt := 191) K dX12_city_231 (by decide) ?_
  exact k_sub [1, 0] rfl (hrc _ _ h)
set_option maxRecDepth 100000 in
set_option maxHeartbeats 4000000 in
theorem wX12_city_191 {l : Launch} {D : va_G} {cI cZ : ClassId} {ad : Nat → Nat} {a : Program × Env × State × MethodId} {b : Array Value × List Frame × Method × Code × (State → Prop) × Nat} {A : Nat → Prop} {k234 : St → Option (Int32 × St)} (K : KS (GM l 7 158 D cI cZ ad a b A) cX12_city RX12 wsX12_city (some .int)) (hn : x_n (GM l 7 158 D cI cZ ad a b A) = 3) {res : (Int32 × St)} (hR : HRi (GM l 7 158 D cI cZ ad a b A) cX12_city tb res) (hk234 : ∀ (σ : St), k234 σ = some res → Wk (GM l 7 158 D cI cZ ad a b A) 234 [(0, .ref (ad 0))] [] σ) : ∀ (n : Nat) (v2 : Int32) (σ : St), mX12_city_191 k234 n v2 σ = some res → Wk (GM l 7 158 D cI cZ ad a b A) 191 [(0, .ref (ad 0)), (2, .int v2)] [] σ := by
  intro n
  induction n with
  | zero => intro v2 σ h; cases h
  | succ n ih =>
    intro v2 σ h
    unfold mX12_city_191 at h
    refine k_iload_n K dX12_city_191 1 rfl ?_
    refine k_sipush (x := 1673) K dX12_city_192 (by decide) ?_
    refine k_icmp_ge (tgt := 234) K dX12_city_195 (by decide) (fun q => ?_) (fun q => ?_)
    · have h := if_f q h
      exact k_sub [0] rfl (hk234  _ h)
    · have h := if_t q h
      refine k_aload_n K dX12_city_198 0 rfl ?_
      refine k_get K 0 12 0 iX12_city_X12 (Nat.le_of_ble_eq_true rfl) ((mM_0 cI cZ ad) _) rfl (by decide) fX12_city_7 rfl dX12_city_199 ?_
      refine k_iload_n K dX12_city_202 1 rfl ?_
      refine k_iload_n K dX12_city_203 1 rfl ?_
      refine k_i2l K dX12_city_204 ?_
      refine k_lconst (v := 1) K dX12_city_205 (by decide) ?_
      refine k_ldc2 (v := 30) K (by decide +kernel) dX12_city_206 ?_
      obtain ⟨⟨r20, s21⟩, e22, h⟩ := bd_some h
      dsimp only at h
      refine k_callSi K (ctX12_in e22) (va_cwS 3 K.ts gX12_city_X12_in rfl rfl rfl hSX12_in ⟨Nat.le_of_ble_eq_true rfl, Nat.le_of_ble_eq_true rfl⟩) rfl rfl (Nat.le_of_ble_eq_true rfl) dX12_city_209 ?_
      refine k_if_eq (tgt := 226) K dX12_city_212 (by decide) (fun q => ?_) (fun q => ?_)
      · have h := if_t q h
        refine k_iconst (x := 0) K dX12_city_226 (by decide) ?_
        exact k_sub [0, 1] rfl (wX12_city_227 K hn hR hk234 ih _ _ _ _ h)
      · have h := if_f q h
        refine k_aload_n K dX12_city_215 0 rfl ?_
        refine k_get K 0 12 6 iX12_city_X12 (Nat.le_of_ble_eq_true rfl) ((mM_0 cI cZ ad) _) rfl (by decide) fX12_city_20 rfl dX12_city_216 ?_
        refine k_iload_n K dX12_city_219 1 rfl ?_
        refine k_iconst (x := 1) K dX12_city_220 (by decide) ?_
        refine k_isub K dX12_city_221 ?_
        obtain ⟨g26, h⟩ := gd_some h
        refine k_ild K 4 0 (Nat.le_of_ble_eq_true rfl) ((mM_4 cI cZ ad) _) rfl g26 dX12_city_222 ?_
        refine k_goto (tgt := 227) K dX12_city_223 (by decide) ?_
        exact k_sub [0, 1] rfl (wX12_city_227 K hn hR hk234 ih _ _ _ _ h)
set_option maxRecDepth 100000 in
set_option maxHeartbeats 4000000 in
theorem wX12_city_189 {l : Launch} {D : va_G} {cI cZ : ClassId} {ad : Nat → Nat} {a : Program × Env × State × MethodId} {b : Array Value × List Frame × Method × Code × (State → Prop) × Nat} {A : Nat → Prop} (K : KS (GM l 7 158 D cI cZ ad a b A) cX12_city RX12 wsX12_city (some .int)) (hn : x_n (GM l 7 158 D cI cZ ad a b A) = 3) {res : (Int32 × St)} (hR : HRi (GM l 7 158 D cI cZ ad a b A) cX12_city tb res) : ∀ (σ : St), mX12_city_189 σ = some res → Wk (GM l 7 158 D cI cZ ad a b A) 189 [(0, .ref (ad 0))] [] σ := by
  intro σ h
  unfold mX12_city_189 at h
  refine k_iconst (x := 0) K dX12_city_189 (by decide) ?_
  refine k_istore_n (lv' := [(2, _), (0, _)]) K dX12_city_190 (by rw [hn]; decide) rfl ?_
  exact k_sub [1, 0] rfl (wX12_city_191 K hn hR (fun  σ h => wX12_city_234 K hn hR  σ h) FU _ _ h)
set_option maxRecDepth 100000 in
set_option maxHeartbeats 4000000 in
theorem wX12_city_129 {l : Launch} {D : va_G} {cI cZ : ClassId} {ad : Nat → Nat} {a : Program × Env × State × MethodId} {b : Array Value × List Frame × Method × Code × (State → Prop) × Nat} {A : Nat → Prop} {k189 : St → Option (Int32 × St)} (K : KS (GM l 7 158 D cI cZ ad a b A) cX12_city RX12 wsX12_city (some .int)) (hn : x_n (GM l 7 158 D cI cZ ad a b A) = 3) {res : (Int32 × St)} (hR : HRi (GM l 7 158 D cI cZ ad a b A) cX12_city tb res) (hk189 : ∀ (σ : St), k189 σ = some res → Wk (GM l 7 158 D cI cZ ad a b A) 189 [(0, .ref (ad 0))] [] σ) : ∀ (n : Nat) (v2 : Int32) (σ : St), mX12_city_129 k189 n v2 σ = some res → Wk (GM l 7 158 D cI cZ ad a b A) 129 [(0, .ref (ad 0)), (2, .int v2)] [] σ := by
  intro n
  induction n with
  | zero => intro v2 σ h; cases h
  | succ n ih =>
    intro v2 σ h
    unfold mX12_city_129 at h
    refine k_iload_n K dX12_city_129 1 rfl ?_
    refine k_aload_n K dX12_city_130 0 rfl ?_
    refine k_get K 0 12 10 iX12_city_X12 (Nat.le_of_ble_eq_true rfl) ((mM_0 cI cZ ad) _) rfl (by decide) fX12_city_149 rfl dX12_city_131 ?_
    refine k_icmp_ge (tgt := 189) K dX12_city_134 (by decide) (fun q => ?_) (fun q => ?_)
    · have h := if_f q h
      exact k_sub [0] rfl (hk189  _ h)
    · have h := if_t q h
      refine k_aload_n K dX12_city_137 0 rfl ?_
      refine k_get K 0 12 11 iX12_city_X12 (Nat.le_of_ble_eq_true rfl) ((mM_0 cI cZ ad) _) rfl (by decide) fX12_city_29 rfl dX12_city_138 ?_
      refine k_iload_n K dX12_city_141 1 rfl ?_
      refine k_aload_n K dX12_city_142 0 rfl ?_
      refine k_get K 0 12 27 iX12_city_X12 (Nat.le_of_ble_eq_true rfl) ((mM_0 cI cZ ad) _) rfl (by decide) fX12_city_50 rfl dX12_city_143 ?_
      refine k_iconst (x := 3) K dX12_city_146 (by decide) ?_
      refine k_iload_n K dX12_city_147 1 rfl ?_
      refine k_imul K dX12_city_148 ?_
      obtain ⟨g27, h⟩ := gd_some h
      refine k_ild K 14 0 (Nat.le_of_ble_eq_true rfl) ((mM_14 cI cZ ad) _) rfl g27 dX12_city_149 ?_
      obtain ⟨g28, h⟩ := gd_some h
      have h := lt_some h
      refine k_ist K 7 0 (Nat.le_of_ble_eq_true rfl) (mM_7 cI cZ ad) rfl g28 dX12_city_150 ?_
      refine k_aload_n K dX12_city_151 0 rfl ?_
      refine k_get K 0 12 12 iX12_city_X12 (Nat.le_of_ble_eq_true rfl) ((mM_0 cI cZ ad) _) rfl (by decide) fX12_city_32 rfl dX12_city_152 ?_
      refine k_iload_n K dX12_city_155 1 rfl ?_
      refine k_aload_n K dX12_city_156 0 rfl ?_
      refine k_get K 0 12 27 iX12_city_X12 (Nat.le_of_ble_eq_true rfl) ((mM_0 cI cZ ad) _) rfl (by decide) fX12_city_50 rfl dX12_city_157 ?_
      refine k_iconst (x := 3) K dX12_city_160 (by decide) ?_
      refine k_iload_n K dX12_city_161 1 rfl ?_
      refine k_imul K dX12_city_162 ?_
      refine k_iconst (x := 1) K dX12_city_163 (by decide) ?_
      refine k_iadd K dX12_city_164 ?_
      obtain ⟨g30, h⟩ := gd_some h
      refine k_ild K 14 0 (Nat.le_of_ble_eq_true rfl) ((mM_14 cI cZ ad) _) rfl g30 dX12_city_165 ?_
      obtain ⟨g31, h⟩ := gd_some h
      have h := lt_some h
      refine k_ist K 8 0 (Nat.le_of_ble_eq_true rfl) (mM_8 cI cZ ad) rfl g31 dX12_city_166 ?_
      refine k_aload_n K dX12_city_167 0 rfl ?_
      refine k_get K 0 12 13 iX12_city_X12 (Nat.le_of_ble_eq_true rfl) ((mM_0 cI cZ ad) _) rfl (by decide) fX12_city_35 rfl dX12_city_168 ?_
      refine k_iload_n K dX12_city_171 1 rfl ?_
      refine k_aload_n K dX12_city_172 0 rfl ?_
      refine k_get K 0 12 27 iX12_city_X12 (Nat.le_of_ble_eq_true rfl) ((mM_0 cI cZ ad) _) rfl (by decide) fX12_city_50 rfl dX12_city_173 ?_
      refine k_iconst (x := 3) K dX12_city_176 (by decide) ?_
      refine k_iload_n K dX12_city_177 1 rfl ?_
      refine k_imul K dX12_city_178 ?_
      refine k_iconst (x := 2) K dX12_city_179 (by decide) ?_
      refine k_iadd K dX12_city_180 ?_
      obtain ⟨g33, h⟩ := gd_some h
      refine k_ild K 14 0 (Nat.le_of_ble_eq_true rfl) ((mM_14 cI cZ ad) _) rfl g33 dX12_city_181 ?_
      obtain ⟨g34, h⟩ := gd_some h
      have h := lt_some h
      refine k_ist K 9 0 (Nat.le_of_ble_eq_true rfl) (mM_9 cI cZ ad) rfl g34 dX12_city_182 ?_
      have h := lt_some h
      refine k_iinc (lv' := [(2, _), (0, _)]) K dX12_city_183 1 rfl (v := _ + 1) (by rfl) (by rw [hn]; decide) rfl ?_
      refine k_goto (tgt := 129) K dX12_city_186 (by decide) ?_
      exact k_sub [1, 0] rfl (ih _ _ h)
set_option maxRecDepth 100000 in
set_option maxHeartbeats 4000000 in
theorem wX12_city_127 {l : Launch} {D : va_G} {cI cZ : ClassId} {ad : Nat → Nat} {a : Program × Env × State × MethodId} {b : Array Value × List Frame × Method × Code × (State → Prop) × Nat} {A : Nat → Prop} (K : KS (GM l 7 158 D cI cZ ad a b A) cX12_city RX12 wsX12_city (some .int)) (hn : x_n (GM l 7 158 D cI cZ ad a b A) = 3) {res : (Int32 × St)} (hR : HRi (GM l 7 158 D cI cZ ad a b A) cX12_city tb res) : ∀ (σ : St), mX12_city_127 σ = some res → Wk (GM l 7 158 D cI cZ ad a b A) 127 [(0, .ref (ad 0))] [] σ := by
  intro σ h
  unfold mX12_city_127 at h
  refine k_iconst (x := 0) K dX12_city_127 (by decide) ?_
  refine k_istore_n (lv' := [(2, _), (0, _)]) K dX12_city_128 (by rw [hn]; decide) rfl ?_
  exact k_sub [1, 0] rfl (wX12_city_129 K hn hR (fun  σ h => wX12_city_189 K hn hR  σ h) FU _ _ h)
set_option maxRecDepth 100000 in
set_option maxHeartbeats 4000000 in
theorem wX12_city_108 {l : Launch} {D : va_G} {cI cZ : ClassId} {ad : Nat → Nat} {a : Program × Env × State × MethodId} {b : Array Value × List Frame × Method × Code × (State → Prop) × Nat} {A : Nat → Prop} {k127 : St → Option (Int32 × St)} {rc : Int32 → St → Option (Int32 × St)} (K : KS (GM l 7 158 D cI cZ ad a b A) cX12_city RX12 wsX12_city (some .int)) (hn : x_n (GM l 7 158 D cI cZ ad a b A) = 3) {res : (Int32 × St)} (hR : HRi (GM l 7 158 D cI cZ ad a b A) cX12_city tb res) (hk127 : ∀ (σ : St), k127 σ = some res → Wk (GM l 7 158 D cI cZ ad a b A) 127 [(0, .ref (ad 0))] [] σ) (hrc : ∀ (v2 : Int32) (σ : St), rc v2 σ = some res → Wk (GM l 7 158 D cI cZ ad a b A) 74 [(0, .ref (ad 0)), (2, .int v2)] [] σ) : ∀ (v2 : Int32), ∀ (t0 : Int32), ∀ (t1 : Int32), ∀ (σ : St), mX12_city_108 k127 rc v2 t0 t1 σ = some res → Wk (GM l 7 158 D cI cZ ad a b A) 108 [(0, .ref (ad 0)), (2, .int v2)] [.int t0, .int t1, .ref (ad 4)] σ := by
  intro v2 t0 t1 σ h
  unfold mX12_city_108 at h
  obtain ⟨g37, h⟩ := gd_some h
  have h := lt_some h
  refine k_ist K 4 0 (Nat.le_of_ble_eq_true rfl) (mM_4 cI cZ ad) rfl g37 dX12_city_108 ?_
  refine k_aload_n K dX12_city_109 0 rfl ?_
  refine k_get K 0 12 7 iX12_city_X12 (Nat.le_of_ble_eq_true rfl) ((mM_0 cI cZ ad) _) rfl (by decide) fX12_city_23 rfl dX12_city_110 ?_
  refine k_iload_n K dX12_city_113 1 rfl ?_
  refine k_aload_n K dX12_city_114 0 rfl ?_
  refine k_get K 0 12 24 iX12_city_X12 (Nat.le_of_ble_eq_true rfl) ((mM_0 cI cZ ad) _) rfl (by decide) fX12_city_47 rfl dX12_city_115 ?_
  refine k_iload_n K dX12_city_118 1 rfl ?_
  obtain ⟨g39, h⟩ := gd_some h
  refine k_ild K 13 0 (Nat.le_of_ble_eq_true rfl) ((mM_13 cI cZ ad) _) rfl g39 dX12_city_119 ?_
  obtain ⟨g40, h⟩ := gd_some h
  have h := lt_some h
  refine k_ist K 5 0 (Nat.le_of_ble_eq_true rfl) (mM_5 cI cZ ad) rfl g40 dX12_city_120 ?_
  have h := lt_some h
  refine k_iinc (lv' := [(2, _), (0, _)]) K dX12_city_121 1 rfl (v := _ + 1) (by rfl) (by rw [hn]; decide) rfl ?_
  refine k_goto (tgt := 74) K dX12_city_124 (by decide) ?_
  exact k_sub [1, 0] rfl (hrc _ _ h)
set_option maxRecDepth 100000 in
set_option maxHeartbeats 4000000 in
theorem wX12_city_74 {l : Launch} {D : va_G} {cI cZ : ClassId} {ad : Nat → Nat} {a : Program × Env × State × MethodId} {b : Array Value × List Frame × Method × Code × (State → Prop) × Nat} {A : Nat → Prop} {k127 : St → Option (Int32 × St)} (K : KS (GM l 7 158 D cI cZ ad a b A) cX12_city RX12 wsX12_city (some .int)) (hn : x_n (GM l 7 158 D cI cZ ad a b A) = 3) {res : (Int32 × St)} (hR : HRi (GM l 7 158 D cI cZ ad a b A) cX12_city tb res) (hk127 : ∀ (σ : St), k127 σ = some res → Wk (GM l 7 158 D cI cZ ad a b A) 127 [(0, .ref (ad 0))] [] σ) : ∀ (n : Nat) (v2 : Int32) (σ : St), mX12_city_74 k127 n v2 σ = some res → Wk (GM l 7 158 D cI cZ ad a b A) 74 [(0, .ref (ad 0)), (2, .int v2)] [] σ := by
  intro n
  induction n with
  | zero => intro v2 σ h; cases h
  | succ n ih =>
    intro v2 σ h
    unfold mX12_city_74 at h
    refine k_iload_n K dX12_city_74 1 rfl ?_
    refine k_bipush (x := 30) K dX12_city_75 (by decide) ?_
    refine k_icmp_ge (tgt := 127) K dX12_city_77 (by decide) (fun q => ?_) (fun q => ?_)
    · have h := if_f q h
      exact k_sub [0] rfl (hk127  _ h)
    · have h := if_t q h
      refine k_aload_n K dX12_city_80 0 rfl ?_
      refine k_get K 0 12 6 iX12_city_X12 (Nat.le_of_ble_eq_true rfl) ((mM_0 cI cZ ad) _) rfl (by decide) fX12_city_20 rfl dX12_city_81 ?_
      refine k_iload_n K dX12_city_84 1 rfl ?_
      refine k_iload_n K dX12_city_85 1 rfl ?_
      refine k_aload_n K dX12_city_86 0 rfl ?_
      refine k_get K 0 12 4 iX12_city_X12 (Nat.le_of_ble_eq_true rfl) ((mM_0 cI cZ ad) _) rfl (by decide) fX12_city_143 rfl dX12_city_87 ?_
      refine k_aload_n K dX12_city_90 0 rfl ?_
      refine k_get K 0 12 5 iX12_city_X12 (Nat.le_of_ble_eq_true rfl) ((mM_0 cI cZ ad) _) rfl (by decide) fX12_city_146 rfl dX12_city_91 ?_
      refine k_imul K dX12_city_94 ?_
      refine k_icmp_ge (tgt := 107) K dX12_city_95 (by decide) (fun q => ?_) (fun q => ?_)
      · have h := if_f q h
        refine k_iconst (x := 0) K dX12_city_107 (by decide) ?_
        exact k_sub [0, 1] rfl (wX12_city_108 K hn hR hk127 ih _ _ _ _ h)
      · have h := if_t q h
        refine k_aload_n K dX12_city_98 0 rfl ?_
        refine k_get K 0 12 22 iX12_city_X12 (Nat.le_of_ble_eq_true rfl) ((mM_0 cI cZ ad) _) rfl (by decide) fX12_city_41 rfl dX12_city_99 ?_
        refine k_iload_n K dX12_city_102 1 rfl ?_
        obtain ⟨g43, h⟩ := gd_some h
        refine k_ild K 11 0 (Nat.le_of_ble_eq_true rfl) ((mM_11 cI cZ ad) _) rfl g43 dX12_city_103 ?_
        refine k_goto (tgt := 108) K dX12_city_104 (by decide) ?_
        exact k_sub [0, 1] rfl (wX12_city_108 K hn hR hk127 ih _ _ _ _ h)
set_option maxRecDepth 100000 in
set_option maxHeartbeats 4000000 in
theorem ctX12_city {l : Launch} {D : va_G} {cI cZ : ClassId} {ad : Nat → Nat} {σ : St} {res : (Int32 × St)} (h : mX12_city σ = some res) : Ci l yX12_city wsX12_city 7 158 D vwCl (tysM cI cZ) nwM (mkM cI cZ ad) ad 17 [.ref (ad 0)] σ res := by
  refine c_int (cc := cX12_city) (maxL := 3) (by decide) rfl (Nat.le_of_ble_eq_true rfl) fun a b hn K hR => ?_
  unfold mX12_city at h
  have K : KS (GM l 7 158 D cI cZ ad a b (w_A ad 17)) cX12_city RX12 wsX12_city (some .int) := K
  have hn : x_n (GM l 7 158 D cI cZ ad a b (w_A ad 17)) = 3 := hn
  refine k_sub [0] rfl ?_
  refine k_aload_n K dX12_city_0 0 rfl ?_
  obtain ⟨⟨r1, s2⟩, e3, h⟩ := bd_some h
  dsimp only at h
  refine k_callVi K 0 12 (Nat.le_of_ble_eq_true rfl) ((mM_0 cI cZ ad) _) rfl (ctX12_fault e3) (cwV 0 K.ts gX12_city_X12_fault rfl rfl rfl hVX12_fault ⟨Nat.le_of_ble_eq_true rfl, Nat.le_of_ble_eq_true rfl⟩) rfl rfl (Nat.le_of_ble_eq_true rfl) dX12_city_1 ?_
  refine k_istore_n (lv' := [(1, _), (0, _)]) K dX12_city_4 (by rw [hn]; decide) rfl ?_
  refine k_iload_n K dX12_city_5 0 rfl ?_
  refine k_bipush (x := (-9)) K dX12_city_6 (by decide) ?_
  refine k_icmp_eq (tgt := 16) K dX12_city_8 (by decide) (fun q => ?_) (fun q => ?_)
  · have h := if_t q h
    refine k_aload_n K dX12_city_16 1 rfl ?_
    refine k_aload_n K dX12_city_17 1 rfl ?_
    refine k_get K 0 12 20 iX12_city_X12 (Nat.le_of_ble_eq_true rfl) ((mM_0 cI cZ ad) _) rfl (by decide) fX12_city_98 rfl dX12_city_18 ?_
    have h := lt_some h
    refine k_putI K 0 12 4 tyX12 tyX12_ok nmX12 iX12_city_X12 (Nat.le_of_ble_eq_true rfl) ((mM_0 cI cZ ad) _) rfl (by decide) fX12_city_143 rfl (by decide +kernel) (Nat.le_of_ble_eq_true rfl) (pM_0_4 cI cZ ad _ _) dX12_city_21 ?_
    refine k_aload_n K dX12_city_24 1 rfl ?_
    refine k_aload_n K dX12_city_25 1 rfl ?_
    refine k_get K 0 12 21 iX12_city_X12 (Nat.le_of_ble_eq_true rfl) ((mM_0 cI cZ ad) _) rfl (by decide) fX12_city_101 rfl dX12_city_26 ?_
    have h := lt_some h
    refine k_putI K 0 12 5 tyX12 tyX12_ok nmX12 iX12_city_X12 (Nat.le_of_ble_eq_true rfl) ((mM_0 cI cZ ad) _) rfl (by decide) fX12_city_146 rfl (by decide +kernel) (Nat.le_of_ble_eq_true rfl) (pM_0_5 cI cZ ad _ _) dX12_city_29 ?_
    refine k_aload_n K dX12_city_32 1 rfl ?_
    refine k_aload_n K dX12_city_33 1 rfl ?_
    refine k_get K 0 12 26 iX12_city_X12 (Nat.le_of_ble_eq_true rfl) ((mM_0 cI cZ ad) _) rfl (by decide) fX12_city_119 rfl dX12_city_34 ?_
    have h := lt_some h
    refine k_putI K 0 12 10 tyX12 tyX12_ok nmX12 iX12_city_X12 (Nat.le_of_ble_eq_true rfl) ((mM_0 cI cZ ad) _) rfl (by decide) fX12_city_149 rfl (by decide +kernel) (Nat.le_of_ble_eq_true rfl) (pM_0_10 cI cZ ad _ _) dX12_city_37 ?_
    refine k_aload_n K dX12_city_40 1 rfl ?_
    refine k_aload_n K dX12_city_41 1 rfl ?_
    refine k_get K 0 12 25 iX12_city_X12 (Nat.le_of_ble_eq_true rfl) ((mM_0 cI cZ ad) _) rfl (by decide) fX12_city_116 rfl dX12_city_42 ?_
    have h := lt_some h
    refine k_putI K 0 12 8 tyX12 tyX12_ok nmX12 iX12_city_X12 (Nat.le_of_ble_eq_true rfl) ((mM_0 cI cZ ad) _) rfl (by decide) fX12_city_152 rfl (by decide +kernel) (Nat.le_of_ble_eq_true rfl) (pM_0_8 cI cZ ad _ _) dX12_city_45 ?_
    refine k_aload_n K dX12_city_48 1 rfl ?_
    refine k_get K 0 12 9 iX12_city_X12 (Nat.le_of_ble_eq_true rfl) ((mM_0 cI cZ ad) _) rfl (by decide) fX12_city_26 rfl dX12_city_49 ?_
    refine k_iconst (x := 0) K dX12_city_52 (by decide) ?_
    refine k_aload_n K dX12_city_53 1 rfl ?_
    refine k_get K 0 12 23 iX12_city_X12 (Nat.le_of_ble_eq_true rfl) ((mM_0 cI cZ ad) _) rfl (by decide) fX12_city_44 rfl dX12_city_54 ?_
    refine k_iconst (x := 0) K dX12_city_57 (by decide) ?_
    obtain ⟨g8, h⟩ := gd_some h
    refine k_ild K 12 0 (Nat.le_of_ble_eq_true rfl) ((mM_12 cI cZ ad) _) rfl g8 dX12_city_58 ?_
    obtain ⟨g9, h⟩ := gd_some h
    have h := lt_some h
    refine k_ist K 6 0 (Nat.le_of_ble_eq_true rfl) (mM_6 cI cZ ad) rfl g9 dX12_city_59 ?_
    refine k_aload_n K dX12_city_60 1 rfl ?_
    refine k_get K 0 12 9 iX12_city_X12 (Nat.le_of_ble_eq_true rfl) ((mM_0 cI cZ ad) _) rfl (by decide) fX12_city_26 rfl dX12_city_61 ?_
    refine k_iconst (x := 1) K dX12_city_64 (by decide) ?_
    refine k_aload_n K dX12_city_65 1 rfl ?_
    refine k_get K 0 12 23 iX12_city_X12 (Nat.le_of_ble_eq_true rfl) ((mM_0 cI cZ ad) _) rfl (by decide) fX12_city_44 rfl dX12_city_66 ?_
    refine k_iconst (x := 1) K dX12_city_69 (by decide) ?_
    obtain ⟨g11, h⟩ := gd_some h
    refine k_ild K 12 0 (Nat.le_of_ble_eq_true rfl) ((mM_12 cI cZ ad) _) rfl g11 dX12_city_70 ?_
    obtain ⟨g12, h⟩ := gd_some h
    have h := lt_some h
    refine k_ist K 6 0 (Nat.le_of_ble_eq_true rfl) (mM_6 cI cZ ad) rfl g12 dX12_city_71 ?_
    refine k_iconst (x := 0) K dX12_city_72 (by decide) ?_
    refine k_istore_n (lv' := [(2, _), (1, _), (0, _)]) K dX12_city_73 (by rw [hn]; decide) rfl ?_
    exact k_sub [2, 0] rfl (wX12_city_74 K hn hR (fun  σ h => wX12_city_127 K hn hR  σ h) FU _ _ h)
  · have h := if_f q h
    refine k_bipush (x := (-10)) K dX12_city_11 (by decide) ?_
    refine k_iload_n K dX12_city_13 0 rfl ?_
    refine k_isub K dX12_city_14 ?_
    exact ret_i hR h dX12_city_15 trivial
-- X12_isCell (1, 25)
theorem iX12_isCell_X12 : ∀ w ∈ wsX120, w ∈ wsX12_isCell := fun _ h => List.mem_cons_of_mem _ (List.mem_append_right _ h)
theorem fX12_isCell_143 : Cond.fieldLink RX12 143 "SlopeCoinsModel" "wide" "I" ∈ wsX12_isCell := by decide +kernel
theorem fX12_isCell_146 : Cond.fieldLink RX12 146 "SlopeCoinsModel" "high" "I" ∈ wsX12_isCell := by decide +kernel
set_option maxRecDepth 100000 in
set_option maxHeartbeats 4000000 in
theorem ctX12_isCell {l : Launch} {D : va_G} {cI cZ : ClassId} {ad : Nat → Nat} {v1 : Int32} {v2 : Int32} {σ : St} {res : (Int32 × St)} (h : mX12_isCell v1 v2 σ = some res) : Ci l yX12_isCell wsX12_isCell 1 25 D vwCl (tysM cI cZ) nwM (mkM cI cZ ad) ad 17 [.ref (ad 0), .int v1, .int v2] σ res := by
  refine c_bool (cc := cX12_isCell) (maxL := 3) (by decide) rfl (Nat.le_of_ble_eq_true rfl) fun a b hn K hR => ?_
  unfold mX12_isCell at h
  have K : KS (GM l 1 25 D cI cZ ad a b (w_A ad 17)) cX12_isCell RX12 wsX12_isCell (some .boolean) := K
  have hn : x_n (GM l 1 25 D cI cZ ad a b (w_A ad 17)) = 3 := hn
  refine k_sub [0, 1, 2] rfl ?_
  refine k_iload_n K dX12_isCell_0 1 rfl ?_
  refine k_i2l K dX12_isCell_1 ?_
  refine k_lconst (v := 0) K dX12_isCell_2 (by decide) ?_
  refine k_aload_n K dX12_isCell_3 0 rfl ?_
  refine k_get K 0 12 4 iX12_isCell_X12 (Nat.le_of_ble_eq_true rfl) ((mM_0 cI cZ ad) _) rfl (by decide) fX12_isCell_143 rfl dX12_isCell_4 ?_
  refine k_iconst (x := 1) K dX12_isCell_7 (by decide) ?_
  refine k_isub K dX12_isCell_8 ?_
  refine k_i2l K dX12_isCell_9 ?_
  obtain ⟨⟨r1, s2⟩, e3, h⟩ := bd_some h
  dsimp only at h
  refine k_callSi K (ctX12_in e3) (va_cwS 3 K.ts gX12_isCell_X12_in rfl rfl rfl hSX12_in ⟨Nat.le_of_ble_eq_true rfl, Nat.le_of_ble_eq_true rfl⟩) rfl rfl (Nat.le_of_ble_eq_true rfl) dX12_isCell_10 ?_
  refine k_if_eq (tgt := 36) K dX12_isCell_13 (by decide) (fun q => ?_) (fun q => ?_)
  · have h := if_t q h
    refine k_iconst (x := 0) K dX12_isCell_36 (by decide) ?_
    exact ret_i hR h dX12_isCell_37 zb_0
  · have h := if_f q h
    refine k_iload_n K dX12_isCell_16 2 rfl ?_
    refine k_i2l K dX12_isCell_17 ?_
    refine k_lconst (v := 0) K dX12_isCell_18 (by decide) ?_
    refine k_aload_n K dX12_isCell_19 0 rfl ?_
    refine k_get K 0 12 5 iX12_isCell_X12 (Nat.le_of_ble_eq_true rfl) ((mM_0 cI cZ ad) _) rfl (by decide) fX12_isCell_146 rfl dX12_isCell_20 ?_
    refine k_iconst (x := 1) K dX12_isCell_23 (by decide) ?_
    refine k_isub K dX12_isCell_24 ?_
    refine k_i2l K dX12_isCell_25 ?_
    obtain ⟨⟨r4, s5⟩, e6, h⟩ := bd_some h
    dsimp only at h
    refine k_callSi K (ctX12_in e6) (va_cwS 3 K.ts gX12_isCell_X12_in rfl rfl rfl hSX12_in ⟨Nat.le_of_ble_eq_true rfl, Nat.le_of_ble_eq_true rfl⟩) rfl rfl (Nat.le_of_ble_eq_true rfl) dX12_isCell_26 ?_
    refine k_if_eq (tgt := 36) K dX12_isCell_29 (by decide) (fun q => ?_) (fun q => ?_)
    · have h := if_t q h
      refine k_iconst (x := 0) K dX12_isCell_36 (by decide) ?_
      exact ret_i hR h dX12_isCell_37 zb_0
    · have h := if_f q h
      refine k_iconst (x := 1) K dX12_isCell_32 (by decide) ?_
      refine k_goto (tgt := 37) K dX12_isCell_33 (by decide) ?_
      exact ret_i hR h dX12_isCell_37 zb_1
-- X12_bit (0, 0)
theorem iX12_bit_X12 : ∀ w ∈ wsX120, w ∈ wsX12_bit := fun _ h => List.mem_cons_of_mem _ (List.mem_append_right _ h)
theorem fX12_bit_143 : Cond.fieldLink RX12 143 "SlopeCoinsModel" "wide" "I" ∈ wsX12_bit := by decide +kernel
set_option maxRecDepth 100000 in
set_option maxHeartbeats 4000000 in
theorem ctX12_bit {l : Launch} {D : va_G} {cI cZ : ClassId} {ad : Nat → Nat} {v1 : Int32} {v2 : Int32} {σ : St} {res : (Int32 × St)} (h : mX12_bit v1 v2 σ = some res) : Ci l yX12_bit wsX12_bit 0 0 D vwCl (tysM cI cZ) nwM (mkM cI cZ ad) ad 17 [.ref (ad 0), .int v1, .int v2] σ res := by
  refine c_int (cc := cX12_bit) (maxL := 3) (by decide) rfl (Nat.le_of_ble_eq_true rfl) fun a b hn K hR => ?_
  unfold mX12_bit at h
  have K : KS (GM l 0 0 D cI cZ ad a b (w_A ad 17)) cX12_bit RX12 wsX12_bit (some .int) := K
  have hn : x_n (GM l 0 0 D cI cZ ad a b (w_A ad 17)) = 3 := hn
  refine k_sub [0, 1, 2] rfl ?_
  refine k_aload_n K dX12_bit_0 0 rfl ?_
  refine k_get K 0 12 4 iX12_bit_X12 (Nat.le_of_ble_eq_true rfl) ((mM_0 cI cZ ad) _) rfl (by decide) fX12_bit_143 rfl dX12_bit_1 ?_
  refine k_iload_n K dX12_bit_4 2 rfl ?_
  refine k_imul K dX12_bit_5 ?_
  refine k_iload_n K dX12_bit_6 1 rfl ?_
  refine k_iadd K dX12_bit_7 ?_
  exact ret_i hR h dX12_bit_8 trivial
-- X12_cells (0, 0)
theorem iX12_cells_X12 : ∀ w ∈ wsX120, w ∈ wsX12_cells := fun _ h => List.mem_cons_of_mem _ (List.mem_append_right _ h)
theorem fX12_cells_143 : Cond.fieldLink RX12 143 "SlopeCoinsModel" "wide" "I" ∈ wsX12_cells := by decide +kernel
theorem fX12_cells_146 : Cond.fieldLink RX12 146 "SlopeCoinsModel" "high" "I" ∈ wsX12_cells := by decide +kernel
set_option maxRecDepth 100000 in
set_option maxHeartbeats 4000000 in
theorem ctX12_cells {l : Launch} {D : va_G} {cI cZ : ClassId} {ad : Nat → Nat} {σ : St} {res : (Int32 × St)} (h : mX12_cells σ = some res) : Ci l yX12_cells wsX12_cells 0 0 D vwCl (tysM cI cZ) nwM (mkM cI cZ ad) ad 17 [.ref (ad 0)] σ res := by
  refine c_int (cc := cX12_cells) (maxL := 1) (by decide) rfl (Nat.le_of_ble_eq_true rfl) fun a b hn K hR => ?_
  unfold mX12_cells at h
  have K : KS (GM l 0 0 D cI cZ ad a b (w_A ad 17)) cX12_cells RX12 wsX12_cells (some .int) := K
  have hn : x_n (GM l 0 0 D cI cZ ad a b (w_A ad 17)) = 1 := hn
  refine k_sub [0] rfl ?_
  refine k_aload_n K dX12_cells_0 0 rfl ?_
  refine k_get K 0 12 4 iX12_cells_X12 (Nat.le_of_ble_eq_true rfl) ((mM_0 cI cZ ad) _) rfl (by decide) fX12_cells_143 rfl dX12_cells_1 ?_
  refine k_aload_n K dX12_cells_4 0 rfl ?_
  refine k_get K 0 12 5 iX12_cells_X12 (Nat.le_of_ble_eq_true rfl) ((mM_0 cI cZ ad) _) rfl (by decide) fX12_cells_146 rfl dX12_cells_5 ?_
  refine k_imul K dX12_cells_8 ?_
  exact ret_i hR h dX12_cells_9 trivial
-- X12_pairOf (0, 0)
theorem iX12_pairOf_X12 : ∀ w ∈ wsX120, w ∈ wsX12_pairOf := fun _ h => List.mem_cons_of_mem _ (List.mem_append_right _ h)
theorem fX12_pairOf_143 : Cond.fieldLink RX12 143 "SlopeCoinsModel" "wide" "I" ∈ wsX12_pairOf := by decide +kernel
set_option maxRecDepth 100000 in
set_option maxHeartbeats 4000000 in
theorem ctX12_pairOf {l : Launch} {D : va_G} {cI cZ : ClassId} {ad : Nat → Nat} {v1 : Int32} {σ : St} {res : (Int32 × St)} (h : mX12_pairOf v1 σ = some res) : Ci l yX12_pairOf wsX12_pairOf 0 0 D vwCl (tysM cI cZ) nwM (mkM cI cZ ad) ad 17 [.ref (ad 0), .int v1] σ res := by
  refine c_int (cc := cX12_pairOf) (maxL := 2) (by decide) rfl (Nat.le_of_ble_eq_true rfl) fun a b hn K hR => ?_
  unfold mX12_pairOf at h
  have K : KS (GM l 0 0 D cI cZ ad a b (w_A ad 17)) cX12_pairOf RX12 wsX12_pairOf (some .int) := K
  have hn : x_n (GM l 0 0 D cI cZ ad a b (w_A ad 17)) = 2 := hn
  refine k_sub [0, 1] rfl ?_
  refine k_bipush (x := 10) K dX12_pairOf_0 (by decide) ?_
  refine k_iload_n K dX12_pairOf_2 1 rfl ?_
  refine k_aload_n K dX12_pairOf_3 0 rfl ?_
  refine k_get K 0 12 4 iX12_pairOf_X12 (Nat.le_of_ble_eq_true rfl) ((mM_0 cI cZ ad) _) rfl (by decide) fX12_pairOf_143 rfl dX12_pairOf_4 ?_
  obtain ⟨g1, h⟩ := gd_some h
  refine k_irem K dX12_pairOf_7 g1 ?_
  refine k_imul K dX12_pairOf_8 ?_
  refine k_iload_n K dX12_pairOf_9 1 rfl ?_
  refine k_aload_n K dX12_pairOf_10 0 rfl ?_
  refine k_get K 0 12 4 iX12_pairOf_X12 (Nat.le_of_ble_eq_true rfl) ((mM_0 cI cZ ad) _) rfl (by decide) fX12_pairOf_143 rfl dX12_pairOf_11 ?_
  obtain ⟨g2, h⟩ := gd_some h
  refine k_idiv K dX12_pairOf_14 g2 ?_
  refine k_iadd K dX12_pairOf_15 ?_
  exact ret_i hR h dX12_pairOf_16 trivial
-- X12_isPair (2, 47)
set_option maxRecDepth 100000 in
set_option maxHeartbeats 4000000 in
theorem ctX12_isPair {l : Launch} {D : va_G} {cI cZ : ClassId} {ad : Nat → Nat} {v1 : Int32} {σ : St} {res : (Int32 × St)} (h : mX12_isPair v1 σ = some res) : Ci l yX12_isPair wsX12_isPair 2 47 D vwCl (tysM cI cZ) nwM (mkM cI cZ ad) ad 17 [.ref (ad 0), .int v1] σ res := by
  refine c_bool (cc := cX12_isPair) (maxL := 2) (by decide) rfl (Nat.le_of_ble_eq_true rfl) fun a b hn K hR => ?_
  unfold mX12_isPair at h
  have K : KS (GM l 2 47 D cI cZ ad a b (w_A ad 17)) cX12_isPair RX12 wsX12_isPair (some .boolean) := K
  have hn : x_n (GM l 2 47 D cI cZ ad a b (w_A ad 17)) = 2 := hn
  refine k_sub [0, 1] rfl ?_
  refine k_iload_n K dX12_isPair_0 1 rfl ?_
  refine k_if_lt (tgt := 23) K dX12_isPair_1 (by decide) (fun q => ?_) (fun q => ?_)
  · have h := if_t q h
    refine k_iconst (x := 0) K dX12_isPair_23 (by decide) ?_
    exact ret_i hR h dX12_isPair_24 zb_0
  · have h := if_f q h
    refine k_aload_n K dX12_isPair_4 0 rfl ?_
    refine k_iload_n K dX12_isPair_5 1 rfl ?_
    refine k_bipush (x := 10) K dX12_isPair_6 (by decide) ?_
    refine k_idiv K dX12_isPair_8 (by decide) ?_
    refine k_iload_n K dX12_isPair_9 1 rfl ?_
    refine k_bipush (x := 10) K dX12_isPair_10 (by decide) ?_
    refine k_irem K dX12_isPair_12 (by decide) ?_
    obtain ⟨⟨r1, s2⟩, e3, h⟩ := bd_some h
    dsimp only at h
    refine k_callVi K 0 12 (Nat.le_of_ble_eq_true rfl) ((mM_0 cI cZ ad) _) rfl (ctX12_isCell e3) (cwV 2 K.ts gX12_isPair_X12_isCell rfl rfl rfl hVX12_isCell ⟨Nat.le_of_ble_eq_true rfl, Nat.le_of_ble_eq_true rfl⟩) rfl rfl (Nat.le_of_ble_eq_true rfl) dX12_isPair_13 ?_
    refine k_if_eq (tgt := 23) K dX12_isPair_16 (by decide) (fun q => ?_) (fun q => ?_)
    · have h := if_t q h
      refine k_iconst (x := 0) K dX12_isPair_23 (by decide) ?_
      exact ret_i hR h dX12_isPair_24 zb_0
    · have h := if_f q h
      refine k_iconst (x := 1) K dX12_isPair_19 (by decide) ?_
      refine k_goto (tgt := 24) K dX12_isPair_20 (by decide) ?_
      exact ret_i hR h dX12_isPair_24 zb_1
-- X12_bitOf (1, 22)
set_option maxRecDepth 100000 in
set_option maxHeartbeats 4000000 in
theorem ctX12_bitOf {l : Launch} {D : va_G} {cI cZ : ClassId} {ad : Nat → Nat} {v1 : Int32} {σ : St} {res : (Int32 × St)} (h : mX12_bitOf v1 σ = some res) : Ci l yX12_bitOf wsX12_bitOf 1 22 D vwCl (tysM cI cZ) nwM (mkM cI cZ ad) ad 17 [.ref (ad 0), .int v1] σ res := by
  refine c_int (cc := cX12_bitOf) (maxL := 2) (by decide) rfl (Nat.le_of_ble_eq_true rfl) fun a b hn K hR => ?_
  unfold mX12_bitOf at h
  have K : KS (GM l 1 22 D cI cZ ad a b (w_A ad 17)) cX12_bitOf RX12 wsX12_bitOf (some .int) := K
  have hn : x_n (GM l 1 22 D cI cZ ad a b (w_A ad 17)) = 2 := hn
  refine k_sub [0, 1] rfl ?_
  refine k_aload_n K dX12_bitOf_0 0 rfl ?_
  refine k_iload_n K dX12_bitOf_1 1 rfl ?_
  refine k_bipush (x := 10) K dX12_bitOf_2 (by decide) ?_
  refine k_idiv K dX12_bitOf_4 (by decide) ?_
  refine k_iload_n K dX12_bitOf_5 1 rfl ?_
  refine k_bipush (x := 10) K dX12_bitOf_6 (by decide) ?_
  refine k_irem K dX12_bitOf_8 (by decide) ?_
  obtain ⟨⟨r1, s2⟩, e3, h⟩ := bd_some h
  dsimp only at h
  refine k_callVi K 0 12 (Nat.le_of_ble_eq_true rfl) ((mM_0 cI cZ ad) _) rfl (ctX12_bit e3) (cwV 2 K.ts gX12_bitOf_X12_bit rfl rfl rfl hVX12_bit ⟨Nat.le_of_ble_eq_true rfl, Nat.le_of_ble_eq_true rfl⟩) rfl rfl (Nat.le_of_ble_eq_true rfl) dX12_bitOf_9 ?_
  exact ret_i hR h dX12_bitOf_12 trivial
-- X12_isKind (1, 25)
theorem iX12_isKind_X12 : ∀ w ∈ wsX120, w ∈ wsX12_isKind := fun _ h => List.mem_cons_of_mem _ (List.mem_append_right _ h)
theorem fX12_isKind_149 : Cond.fieldLink RX12 149 "SlopeCoinsModel" "kinds" "I" ∈ wsX12_isKind := by decide +kernel
set_option maxRecDepth 100000 in
set_option maxHeartbeats 4000000 in
theorem ctX12_isKind {l : Launch} {D : va_G} {cI cZ : ClassId} {ad : Nat → Nat} {v1 : Int32} {σ : St} {res : (Int32 × St)} (h : mX12_isKind v1 σ = some res) : Ci l yX12_isKind wsX12_isKind 1 25 D vwCl (tysM cI cZ) nwM (mkM cI cZ ad) ad 17 [.ref (ad 0), .int v1] σ res := by
  refine c_bool (cc := cX12_isKind) (maxL := 2) (by decide) rfl (Nat.le_of_ble_eq_true rfl) fun a b hn K hR => ?_
  unfold mX12_isKind at h
  have K : KS (GM l 1 25 D cI cZ ad a b (w_A ad 17)) cX12_isKind RX12 wsX12_isKind (some .boolean) := K
  have hn : x_n (GM l 1 25 D cI cZ ad a b (w_A ad 17)) = 2 := hn
  refine k_sub [0, 1] rfl ?_
  refine k_iload_n K dX12_isKind_0 1 rfl ?_
  refine k_i2l K dX12_isKind_1 ?_
  refine k_lconst (v := 0) K dX12_isKind_2 (by decide) ?_
  refine k_aload_n K dX12_isKind_3 0 rfl ?_
  refine k_get K 0 12 10 iX12_isKind_X12 (Nat.le_of_ble_eq_true rfl) ((mM_0 cI cZ ad) _) rfl (by decide) fX12_isKind_149 rfl dX12_isKind_4 ?_
  refine k_iconst (x := 1) K dX12_isKind_7 (by decide) ?_
  refine k_isub K dX12_isKind_8 ?_
  refine k_i2l K dX12_isKind_9 ?_
  obtain ⟨⟨r1, s2⟩, e3, h⟩ := bd_some h
  dsimp only at h
  refine k_callSi K (ctX12_in e3) (va_cwS 3 K.ts gX12_isKind_X12_in rfl rfl rfl hSX12_in ⟨Nat.le_of_ble_eq_true rfl, Nat.le_of_ble_eq_true rfl⟩) rfl rfl (Nat.le_of_ble_eq_true rfl) dX12_isKind_10 ?_
  obtain ⟨g4, h⟩ := gd_some h
  exact ret_i hR h dX12_isKind_13 g4
-- X12_isPlank (0, 0)
theorem iX12_isPlank_X12 : ∀ w ∈ wsX120, w ∈ wsX12_isPlank := fun _ h => List.mem_cons_of_mem _ (List.mem_append_right _ h)
theorem fX12_isPlank_7 : Cond.fieldLink RX12 7 "SlopeCoinsModel" "row" "[I" ∈ wsX12_isPlank := by decide +kernel
set_option maxRecDepth 100000 in
set_option maxHeartbeats 4000000 in
theorem ctX12_isPlank {l : Launch} {D : va_G} {cI cZ : ClassId} {ad : Nat → Nat} {v1 : Int32} {σ : St} {res : (Int32 × St)} (h : mX12_isPlank v1 σ = some res) : Ci l yX12_isPlank wsX12_isPlank 0 0 D vwCl (tysM cI cZ) nwM (mkM cI cZ ad) ad 17 [.ref (ad 0), .int v1] σ res := by
  refine c_bool (cc := cX12_isPlank) (maxL := 2) (by decide) rfl (Nat.le_of_ble_eq_true rfl) fun a b hn K hR => ?_
  unfold mX12_isPlank at h
  have K : KS (GM l 0 0 D cI cZ ad a b (w_A ad 17)) cX12_isPlank RX12 wsX12_isPlank (some .boolean) := K
  have hn : x_n (GM l 0 0 D cI cZ ad a b (w_A ad 17)) = 2 := hn
  refine k_sub [0, 1] rfl ?_
  refine k_aload_n K dX12_isPlank_0 0 rfl ?_
  refine k_get K 0 12 0 iX12_isPlank_X12 (Nat.le_of_ble_eq_true rfl) ((mM_0 cI cZ ad) _) rfl (by decide) fX12_isPlank_7 rfl dX12_isPlank_1 ?_
  refine k_bipush (x := 31) K dX12_isPlank_4 (by decide) ?_
  refine k_iload_n K dX12_isPlank_6 1 rfl ?_
  refine k_iconst (x := 2) K dX12_isPlank_7 (by decide) ?_
  refine k_idiv K dX12_isPlank_8 (by decide) ?_
  refine k_iadd K dX12_isPlank_9 ?_
  obtain ⟨g1, h⟩ := gd_some h
  refine k_ild K 1 0 (Nat.le_of_ble_eq_true rfl) ((mM_1 cI cZ ad) _) rfl g1 dX12_isPlank_10 ?_
  refine k_bipush (x := 20) K dX12_isPlank_11 (by decide) ?_
  refine k_iload_n K dX12_isPlank_13 1 rfl ?_
  refine k_iconst (x := 2) K dX12_isPlank_14 (by decide) ?_
  refine k_irem K dX12_isPlank_15 (by decide) ?_
  refine k_iadd K dX12_isPlank_16 ?_
  refine k_ishr K dX12_isPlank_17 ?_
  refine k_iconst (x := 1) K dX12_isPlank_18 (by decide) ?_
  refine k_iand K dX12_isPlank_19 ?_
  refine k_iconst (x := 1) K dX12_isPlank_20 (by decide) ?_
  refine k_icmp_ne (tgt := 28) K dX12_isPlank_21 (by decide) (fun q => ?_) (fun q => ?_)
  · have h := if_f q h
    refine k_iconst (x := 0) K dX12_isPlank_28 (by decide) ?_
    exact ret_i hR h dX12_isPlank_29 zb_0
  · have h := if_t q h
    refine k_iconst (x := 1) K dX12_isPlank_24 (by decide) ?_
    refine k_goto (tgt := 29) K dX12_isPlank_25 (by decide) ?_
    exact ret_i hR h dX12_isPlank_29 zb_1
-- X12_setPlank (0, 0)
theorem iX12_setPlank_X12 : ∀ w ∈ wsX120, w ∈ wsX12_setPlank := fun _ h => List.mem_cons_of_mem _ (List.mem_append_right _ h)
theorem fX12_setPlank_7 : Cond.fieldLink RX12 7 "SlopeCoinsModel" "row" "[I" ∈ wsX12_setPlank := by decide +kernel
set_option maxRecDepth 100000 in
set_option maxHeartbeats 4000000 in
theorem ctX12_setPlank {l : Launch} {D : va_G} {cI cZ : ClassId} {ad : Nat → Nat} {v1 : Int32} {σ : St} {res : (Int32 × St)} (h : mX12_setPlank v1 σ = some res) : Cv l yX12_setPlank wsX12_setPlank 0 0 D vwCl (tysM cI cZ) nwM (mkM cI cZ ad) ad 17 [.ref (ad 0), .int v1] σ res := by
  refine c_void (cc := cX12_setPlank) (maxL := 2) (by decide) rfl (Nat.le_of_ble_eq_true rfl) fun a b hn K hR => ?_
  unfold mX12_setPlank at h
  have K : KS (GM l 0 0 D cI cZ ad a b (w_A ad 17)) cX12_setPlank RX12 wsX12_setPlank none := K
  have hn : x_n (GM l 0 0 D cI cZ ad a b (w_A ad 17)) = 2 := hn
  refine k_sub [0, 1] rfl ?_
  refine k_aload_n K dX12_setPlank_0 0 rfl ?_
  refine k_get K 0 12 0 iX12_setPlank_X12 (Nat.le_of_ble_eq_true rfl) ((mM_0 cI cZ ad) _) rfl (by decide) fX12_setPlank_7 rfl dX12_setPlank_1 ?_
  refine k_bipush (x := 31) K dX12_setPlank_4 (by decide) ?_
  refine k_iload_n K dX12_setPlank_6 1 rfl ?_
  refine k_iconst (x := 2) K dX12_setPlank_7 (by decide) ?_
  refine k_idiv K dX12_setPlank_8 (by decide) ?_
  refine k_iadd K dX12_setPlank_9 ?_
  refine k_dup2 K dX12_setPlank_10 rfl rfl ?_
  obtain ⟨g1, h⟩ := gd_some h
  refine k_ild K 1 0 (Nat.le_of_ble_eq_true rfl) ((mM_1 cI cZ ad) _) rfl g1 dX12_setPlank_11 ?_
  refine k_iconst (x := 1) K dX12_setPlank_12 (by decide) ?_
  refine k_bipush (x := 20) K dX12_setPlank_13 (by decide) ?_
  refine k_iload_n K dX12_setPlank_15 1 rfl ?_
  refine k_iconst (x := 2) K dX12_setPlank_16 (by decide) ?_
  refine k_irem K dX12_setPlank_17 (by decide) ?_
  refine k_iadd K dX12_setPlank_18 ?_
  refine k_ishl K dX12_setPlank_19 ?_
  refine k_ixor K dX12_setPlank_20 ?_
  obtain ⟨g2, h⟩ := gd_some h
  have h := lt_some h
  refine k_ist K 1 0 (Nat.le_of_ble_eq_true rfl) (mM_1 cI cZ ad) rfl g2 dX12_setPlank_21 ?_
  exact ret_v hR h dX12_setPlank_22
-- X12_liesOn (0, 0)
theorem iX12_liesOn_X12 : ∀ w ∈ wsX120, w ∈ wsX12_liesOn := fun _ h => List.mem_cons_of_mem _ (List.mem_append_right _ h)
theorem fX12_liesOn_7 : Cond.fieldLink RX12 7 "SlopeCoinsModel" "row" "[I" ∈ wsX12_liesOn := by decide +kernel
set_option maxRecDepth 100000 in
set_option maxHeartbeats 4000000 in
theorem ctX12_liesOn {l : Launch} {D : va_G} {cI cZ : ClassId} {ad : Nat → Nat} {v1 : Int32} {σ : St} {res : (Int32 × St)} (h : mX12_liesOn v1 σ = some res) : Ci l yX12_liesOn wsX12_liesOn 0 0 D vwCl (tysM cI cZ) nwM (mkM cI cZ ad) ad 17 [.ref (ad 0), .int v1] σ res := by
  refine c_int (cc := cX12_liesOn) (maxL := 2) (by decide) rfl (Nat.le_of_ble_eq_true rfl) fun a b hn K hR => ?_
  unfold mX12_liesOn at h
  have K : KS (GM l 0 0 D cI cZ ad a b (w_A ad 17)) cX12_liesOn RX12 wsX12_liesOn (some .int) := K
  have hn : x_n (GM l 0 0 D cI cZ ad a b (w_A ad 17)) = 2 := hn
  refine k_sub [0, 1] rfl ?_
  refine k_aload_n K dX12_liesOn_0 0 rfl ?_
  refine k_get K 0 12 0 iX12_liesOn_X12 (Nat.le_of_ble_eq_true rfl) ((mM_0 cI cZ ad) _) rfl (by decide) fX12_liesOn_7 rfl dX12_liesOn_1 ?_
  refine k_bipush (x := 31) K dX12_liesOn_4 (by decide) ?_
  refine k_iload_n K dX12_liesOn_6 1 rfl ?_
  refine k_iadd K dX12_liesOn_7 ?_
  obtain ⟨g1, h⟩ := gd_some h
  refine k_ild K 1 0 (Nat.le_of_ble_eq_true rfl) ((mM_1 cI cZ ad) _) rfl g1 dX12_liesOn_8 ?_
  refine k_ldc (x := 1048575) K (by decide +kernel) dX12_liesOn_9 ?_
  refine k_iand K dX12_liesOn_11 ?_
  exact ret_i hR h dX12_liesOn_12 trivial

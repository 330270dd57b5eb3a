/-! walks, by program -/
-- X12_lets (6, 142)
theorem iX12_lets_X12 : ∀ w ∈ wsX120, w ∈ wsX12_lets := fun _ h => List.mem_cons_of_mem _ (List.mem_append_right _ h)
theorem fX12_lets_7 : Cond.fieldLink RX12 7 "SlopeCoinsModel" "row" "[I" ∈ wsX12_lets := by decide +kernel
theorem fX12_lets_32 : Cond.fieldLink RX12 32 "SlopeCoinsModel" "worths" "[I" ∈ wsX12_lets := by decide +kernel
theorem fX12_lets_200 : Cond.fieldLink RX12 200 "SlopeCoinsModel" "ended" "I" ∈ wsX12_lets := by decide +kernel
set_option maxRecDepth 100000 in
set_option maxHeartbeats 4000000 in
theorem wX12_lets_119 {l : Launch} {D : va_G} {cI cZ : ClassId} {ad : Nat → Nat} {a : Program × Env × State × MethodId} {b : Array Value × List Frame × Method × Code × (State → Prop) × Nat} {A : Nat → Prop} (K : KS (GM l 6 142 D cI cZ ad a b A) cX12_lets RX12 wsX12_lets (some .int)) (hn : x_n (GM l 6 142 D cI cZ ad a b A) = 6) {res : (Int32 × St)} (hR : HRi (GM l 6 142 D cI cZ ad a b A) cX12_lets tb res) : ∀ (v1 : Int32), ∀ (v4 : Int32), ∀ (t0 : Int32), ∀ (σ : St), mX12_lets_119 v1 v4 t0 σ = some res → Wk (GM l 6 142 D cI cZ ad a b A) 119 [(0, .ref (ad 0)), (1, .int v1), (4, .int v4)] [.int t0, .ref (ad 1)] σ := by
  intro v1 v4 t0 σ h
  unfold mX12_lets_119 at h
  refine k_iload K dX12_lets_119 2 rfl ?_
  refine k_iadd K dX12_lets_121 ?_
  refine k_dup2 K dX12_lets_122 rfl rfl ?_
  obtain ⟨g26, h⟩ := gd_some h
  refine k_ild K 1 0 (Nat.le_of_ble_eq_true rfl) ((mM_1 cI cZ ad) _) rfl g26 dX12_lets_123 ?_
  refine k_aload_n K dX12_lets_124 0 rfl ?_
  refine k_get K 0 12 12 iX12_lets_X12 (Nat.le_of_ble_eq_true rfl) ((mM_0 cI cZ ad) _) rfl (by decide) fX12_lets_32 rfl dX12_lets_125 ?_
  refine k_iload_n K dX12_lets_128 1 rfl ?_
  obtain ⟨g27, h⟩ := gd_some h
  refine k_ild K 8 0 (Nat.le_of_ble_eq_true rfl) ((mM_8 cI cZ ad) _) rfl g27 dX12_lets_129 ?_
  refine k_iadd K dX12_lets_130 ?_
  obtain ⟨g28, h⟩ := gd_some h
  have h := lt_some h
  refine k_ist K 1 0 (Nat.le_of_ble_eq_true rfl) (mM_1 cI cZ ad) rfl g28 dX12_lets_131 ?_
  refine k_aload_n K dX12_lets_132 0 rfl ?_
  obtain ⟨⟨r30, s31⟩, e32, h⟩ := bd_some h
  dsimp only at h
  refine k_callVi K 0 12 (Nat.le_of_ble_eq_true rfl) ((mM_0 cI cZ ad) _) rfl (ctX12_toldEnd e32) (cwV 0 K.ts gX12_lets_X12_toldEnd rfl rfl rfl hVX12_toldEnd ⟨Nat.le_of_ble_eq_true rfl, Nat.le_of_ble_eq_true rfl⟩) rfl rfl (Nat.le_of_ble_eq_true rfl) dX12_lets_133 ?_
  exact ret_i hR h dX12_lets_136 trivial
set_option maxRecDepth 100000 in
set_option maxHeartbeats 4000000 in
theorem wX12_lets_95 {l : Launch} {D : va_G} {cI cZ : ClassId} {ad : Nat → Nat} {a : Program × Env × State × MethodId} {b : Array Value × List Frame × Method × Code × (State → Prop) × Nat} {A : Nat → Prop} (K : KS (GM l 6 142 D cI cZ ad a b A) cX12_lets RX12 wsX12_lets (some .int)) (hn : x_n (GM l 6 142 D cI cZ ad a b A) = 6) {res : (Int32 × St)} (hR : HRi (GM l 6 142 D cI cZ ad a b A) cX12_lets tb res) : ∀ (v1 : Int32), ∀ (v4 : Int32), ∀ (v5 : Int32), ∀ (t0 : Int32), ∀ (σ : St), mX12_lets_95 v1 v4 v5 t0 σ = some res → Wk (GM l 6 142 D cI cZ ad a b A) 95 [(0, .ref (ad 0)), (1, .int v1), (4, .int v4), (5, .int v5)] [.int t0, .ref (ad 1)] σ := by
  intro v1 v4 v5 t0 σ h
  unfold mX12_lets_95 at h
  refine k_iload K dX12_lets_95 2 rfl ?_
  refine k_iadd K dX12_lets_97 ?_
  refine k_dup2 K dX12_lets_98 rfl rfl ?_
  obtain ⟨g23, h⟩ := gd_some h
  refine k_ild K 1 0 (Nat.le_of_ble_eq_true rfl) ((mM_1 cI cZ ad) _) rfl g23 dX12_lets_99 ?_
  refine k_iconst (x := 1) K dX12_lets_100 (by decide) ?_
  refine k_iadd K dX12_lets_101 ?_
  obtain ⟨g24, h⟩ := gd_some h
  have h := lt_some h
  refine k_ist K 1 0 (Nat.le_of_ble_eq_true rfl) (mM_1 cI cZ ad) rfl g24 dX12_lets_102 ?_
  refine k_aload_n K dX12_lets_103 0 rfl ?_
  refine k_get K 0 12 0 iX12_lets_X12 (Nat.le_of_ble_eq_true rfl) ((mM_0 cI cZ ad) _) rfl (by decide) fX12_lets_7 rfl dX12_lets_104 ?_
  refine k_iload K dX12_lets_107 3 rfl ?_
  refine k_if_eq (tgt := 117) K dX12_lets_109 (by decide) (fun q => ?_) (fun q => ?_)
  · have h := if_t q h
    refine k_bipush (x := 61) K dX12_lets_117 (by decide) ?_
    exact k_sub [0, 1, 2] rfl (wX12_lets_119 K hn hR _ _ _ _ h)
  · have h := if_f q h
    refine k_bipush (x := 121) K dX12_lets_112 (by decide) ?_
    refine k_goto (tgt := 119) K dX12_lets_114 (by decide) ?_
    exact k_sub [0, 1, 2] rfl (wX12_lets_119 K hn hR _ _ _ _ h)
set_option maxRecDepth 100000 in
set_option maxHeartbeats 4000000 in
theorem wX12_lets_77 {l : Launch} {D : va_G} {cI cZ : ClassId} {ad : Nat → Nat} {a : Program × Env × State × MethodId} {b : Array Value × List Frame × Method × Code × (State → Prop) × Nat} {A : Nat → Prop} (K : KS (GM l 6 142 D cI cZ ad a b A) cX12_lets RX12 wsX12_lets (some .int)) (hn : x_n (GM l 6 142 D cI cZ ad a b A) = 6) {res : (Int32 × St)} (hR : HRi (GM l 6 142 D cI cZ ad a b A) cX12_lets tb res) : ∀ (v1 : Int32), ∀ (v4 : Int32), ∀ (t0 : Int32), ∀ (σ : St), mX12_lets_77 v1 v4 t0 σ = some res → Wk (GM l 6 142 D cI cZ ad a b A) 77 [(0, .ref (ad 0)), (1, .int v1), (4, .int v4)] [.int t0] σ := by
  intro v1 v4 t0 σ h
  unfold mX12_lets_77 at h
  refine k_istore (lv' := [(5, _), (0, _), (1, _), (4, _)]) K dX12_lets_77 (by rw [hn]; decide) rfl ?_
  refine k_aload_n K dX12_lets_79 1 rfl ?_
  refine k_get K 0 12 0 iX12_lets_X12 (Nat.le_of_ble_eq_true rfl) ((mM_0 cI cZ ad) _) rfl (by decide) fX12_lets_7 rfl dX12_lets_80 ?_
  refine k_iload K dX12_lets_83 0 rfl ?_
  refine k_if_eq (tgt := 93) K dX12_lets_85 (by decide) (fun q => ?_) (fun q => ?_)
  · have h := if_t q h
    refine k_bipush (x := 31) K dX12_lets_93 (by decide) ?_
    exact k_sub [1, 2, 3, 0] rfl (wX12_lets_95 K hn hR _ _ _ _ _ h)
  · have h := if_f q h
    refine k_bipush (x := 91) K dX12_lets_88 (by decide) ?_
    refine k_goto (tgt := 95) K dX12_lets_90 (by decide) ?_
    exact k_sub [1, 2, 3, 0] rfl (wX12_lets_95 K hn hR _ _ _ _ _ h)
set_option maxRecDepth 100000 in
set_option maxHeartbeats 4000000 in
theorem ctX12_lets {l : Launch} {D : va_G} {cI cZ : ClassId} {ad : Nat → Nat} {v1 : Int32} {v2 : Int32} {v3 : Int32} {σ : St} {res : (Int32 × St)} (h : mX12_lets v1 v2 v3 σ = some res) : Ci l yX12_lets wsX12_lets 6 142 D vwCl (tysM cI cZ) nwM (mkM cI cZ ad) ad 17 [.ref (ad 0), .int v1, .int v2, .int v3] σ res := by
  refine c_int (cc := cX12_lets) (maxL := 6) (by decide) rfl (Nat.le_of_ble_eq_true rfl) fun a b hn K hR => ?_
  unfold mX12_lets at h
  have K : KS (GM l 6 142 D cI cZ ad a b (w_A ad 17)) cX12_lets RX12 wsX12_lets (some .int) := K
  have hn : x_n (GM l 6 142 D cI cZ ad a b (w_A ad 17)) = 6 := hn
  refine k_sub [0, 1, 2, 3] rfl ?_
  refine k_aload_n K dX12_lets_0 0 rfl ?_
  refine k_iload_n K dX12_lets_1 1 rfl ?_
  obtain ⟨⟨r1, s2⟩, e3, h⟩ := bd_some h
  dsimp only at h
  refine k_callVi K 0 12 (Nat.le_of_ble_eq_true rfl) ((mM_0 cI cZ ad) _) rfl (ctX12_isKind e3) (cwV 1 K.ts gX12_lets_X12_isKind rfl rfl rfl hVX12_isKind ⟨Nat.le_of_ble_eq_true rfl, Nat.le_of_ble_eq_true rfl⟩) rfl rfl (Nat.le_of_ble_eq_true rfl) dX12_lets_2 ?_
  refine k_if_eq (tgt := 17) K dX12_lets_5 (by decide) (fun q => ?_) (fun q => ?_)
  · have h := if_t q h
    refine k_iconst (x := (-1)) K dX12_lets_17 (by decide) ?_
    exact ret_i hR h dX12_lets_18 trivial
  · have h := if_f q h
    refine k_aload_n K dX12_lets_8 0 rfl ?_
    refine k_iload_n K dX12_lets_9 2 rfl ?_
    refine k_iload_n K dX12_lets_10 3 rfl ?_
    obtain ⟨⟨r4, s5⟩, e6, h⟩ := bd_some h
    dsimp only at h
    refine k_callVi K 0 12 (Nat.le_of_ble_eq_true rfl) ((mM_0 cI cZ ad) _) rfl (ctX12_isCell e6) (cwV 2 K.ts gX12_lets_X12_isCell rfl rfl rfl hVX12_isCell ⟨Nat.le_of_ble_eq_true rfl, Nat.le_of_ble_eq_true rfl⟩) rfl rfl (Nat.le_of_ble_eq_true rfl) dX12_lets_11 ?_
    refine k_if_ne (tgt := 19) K dX12_lets_14 (by decide) (fun q => ?_) (fun q => ?_)
    · have h := if_f q h
      refine k_aload_n K dX12_lets_19 0 rfl ?_
      obtain ⟨⟨r7, s8⟩, e9, h⟩ := bd_some h
      dsimp only at h
      refine k_callVi K 0 12 (Nat.le_of_ble_eq_true rfl) ((mM_0 cI cZ ad) _) rfl (ctX12_lying e9) (cwV 0 K.ts gX12_lets_X12_lying rfl rfl rfl hVX12_lying ⟨Nat.le_of_ble_eq_true rfl, Nat.le_of_ble_eq_true rfl⟩) rfl rfl (Nat.le_of_ble_eq_true rfl) dX12_lets_20 ?_
      refine k_aload_n K dX12_lets_23 0 rfl ?_
      refine k_bipush (x := 91) K dX12_lets_24 (by decide) ?_
      obtain ⟨⟨r10, s11⟩, e12, h⟩ := bd_some h
      dsimp only at h
      refine k_callVi K 0 12 (Nat.le_of_ble_eq_true rfl) ((mM_0 cI cZ ad) _) rfl (ctX12_sumFrom e12) (cwV 1 K.ts gX12_lets_X12_sumFrom rfl rfl rfl hVX12_sumFrom ⟨Nat.le_of_ble_eq_true rfl, Nat.le_of_ble_eq_true rfl⟩) rfl rfl (Nat.le_of_ble_eq_true rfl) dX12_lets_26 ?_
      refine k_iadd K dX12_lets_29 ?_
      refine k_sipush (x := 999) K dX12_lets_30 (by decide) ?_
      refine k_icmp_ne (tgt := 39) K dX12_lets_33 (by decide) (fun q => ?_) (fun q => ?_)
      · have h := if_f q h
        refine k_aload_n K dX12_lets_39 0 rfl ?_
        obtain ⟨⟨r13, s14⟩, e15, h⟩ := bd_some h
        dsimp only at h
        refine k_callVv K 0 12 (Nat.le_of_ble_eq_true rfl) ((mM_0 cI cZ ad) _) rfl (ctX12_keepPast e15) (cwV 0 K.ts gX12_lets_X12_keepPast rfl rfl rfl hVX12_keepPast ⟨Nat.le_of_ble_eq_true rfl, Nat.le_of_ble_eq_true rfl⟩) rfl rfl (Nat.le_of_ble_eq_true rfl) dX12_lets_40 ?_
        refine k_aload_n K dX12_lets_43 0 rfl ?_
        refine k_iload_n K dX12_lets_44 1 rfl ?_
        refine k_aload_n K dX12_lets_45 0 rfl ?_
        refine k_iload_n K dX12_lets_46 2 rfl ?_
        refine k_iload_n K dX12_lets_47 3 rfl ?_
        obtain ⟨⟨r16, s17⟩, e18, h⟩ := bd_some h
        dsimp only at h
        refine k_callVi K 0 12 (Nat.le_of_ble_eq_true rfl) ((mM_0 cI cZ ad) _) rfl (ctX12_bit e18) (cwV 2 K.ts gX12_lets_X12_bit rfl rfl rfl hVX12_bit ⟨Nat.le_of_ble_eq_true rfl, Nat.le_of_ble_eq_true rfl⟩) rfl rfl (Nat.le_of_ble_eq_true rfl) dX12_lets_48 ?_
        obtain ⟨⟨r19, s20⟩, e21, h⟩ := bd_some h
        dsimp only at h
        refine k_callVv K 0 12 (Nat.le_of_ble_eq_true rfl) ((mM_0 cI cZ ad) _) rfl (ctX12_rollKind e21) (cwV 2 K.ts gX12_lets_X12_rollKind rfl rfl rfl hVX12_rollKind ⟨Nat.le_of_ble_eq_true rfl, Nat.le_of_ble_eq_true rfl⟩) rfl rfl (Nat.le_of_ble_eq_true rfl) dX12_lets_51 ?_
        refine k_aload_n K dX12_lets_54 0 rfl ?_
        refine k_get K 0 12 32 iX12_lets_X12 (Nat.le_of_ble_eq_true rfl) ((mM_0 cI cZ ad) _) rfl (by decide) fX12_lets_200 rfl dX12_lets_55 ?_
        refine k_bipush (x := 100) K dX12_lets_58 (by decide) ?_
        refine k_irem K dX12_lets_60 (by decide) ?_
        have h := lt_some h
        refine k_istore (lv' := [(4, _), (0, _), (1, _), (2, _), (3, _)]) K dX12_lets_61 (by rw [hn]; decide) rfl ?_
        refine k_aload_n K dX12_lets_63 1 rfl ?_
        refine k_get K 0 12 32 iX12_lets_X12 (Nat.le_of_ble_eq_true rfl) ((mM_0 cI cZ ad) _) rfl (by decide) fX12_lets_200 rfl dX12_lets_64 ?_
        refine k_bipush (x := 100) K dX12_lets_67 (by decide) ?_
        refine k_icmp_lt (tgt := 76) K dX12_lets_69 (by decide) (fun q => ?_) (fun q => ?_)
        · have h := if_t q h
          refine k_iconst (x := 0) K dX12_lets_76 (by decide) ?_
          exact k_sub [1, 2, 0] rfl (wX12_lets_77 K hn hR _ _ _ _ h)
        · have h := if_f q h
          refine k_iconst (x := 1) K dX12_lets_72 (by decide) ?_
          refine k_goto (tgt := 77) K dX12_lets_73 (by decide) ?_
          exact k_sub [1, 2, 0] rfl (wX12_lets_77 K hn hR _ _ _ _ h)
      · have h := if_t q h
        refine k_bipush (x := (-2)) K dX12_lets_36 (by decide) ?_
        exact ret_i hR h dX12_lets_38 trivial
    · have h := if_t q h
      refine k_iconst (x := (-1)) K dX12_lets_17 (by decide) ?_
      exact ret_i hR h dX12_lets_18 trivial
-- X12_planksNow (1, 21)
set_option maxRecDepth 100000 in
set_option maxHeartbeats 4000000 in
theorem wX12_planksNow_24 {l : Launch} {D : va_G} {cI cZ : ClassId} {ad : Nat → Nat} {a : Program × Env × State × MethodId} {b : Array Value × List Frame × Method × Code × (State → Prop) × Nat} {A : Nat → Prop} {rc : Int32 → Int32 → St → Option (Int32 × St)} (K : KS (GM l 1 21 D cI cZ ad a b A) cX12_planksNow RX12 wsX12_planksNow (some .int)) (hn : x_n (GM l 1 21 D cI cZ ad a b A) = 3) {res : (Int32 × St)} (hR : HRi (GM l 1 21 D cI cZ ad a b A) cX12_planksNow tb res) (hrc : ∀ (v1 : Int32) (v2 : Int32) (σ : St), rc v1 v2 σ = some res → Wk (GM l 1 21 D cI cZ ad a b A) 4 [(0, .ref (ad 0)), (1, .int v1), (2, .int v2)] [] σ) : ∀ (v2 : Int32), ∀ (t0 : Int32), ∀ (t1 : Int32), ∀ (σ : St), mX12_planksNow_24 rc v2 t0 t1 σ = some res → Wk (GM l 1 21 D cI cZ ad a b A) 24 [(0, .ref (ad 0)), (2, .int v2)] [.int t0, .int t1] σ := by
  intro v2 t0 t1 σ h
  unfold mX12_planksNow_24 at h
  refine k_iadd K dX12_planksNow_24 ?_
  have h := lt_some h
  refine k_istore_n (lv' := [(1, _), (0, _), (2, _)]) K dX12_planksNow_25 (by rw [hn]; decide) rfl ?_
  have h := lt_some h
  refine k_iinc (lv' := [(2, _), (1, _), (0, _)]) K dX12_planksNow_26 2 rfl (v := _ + 1) (by rfl) (by rw [hn]; decide) rfl ?_
  refine k_goto (tgt := 4) K dX12_planksNow_29 (by decide) ?_
  exact k_sub [2, 1, 0] rfl (hrc _ _ _ h)
set_option maxRecDepth 100000 in
set_option maxHeartbeats 4000000 in
theorem wX12_planksNow_4 {l : Launch} {D : va_G} {cI cZ : ClassId} {ad : Nat → Nat} {a : Program × Env × State × MethodId} {b : Array Value × List Frame × Method × Code × (State → Prop) × Nat} {A : Nat → Prop} (K : KS (GM l 1 21 D cI cZ ad a b A) cX12_planksNow RX12 wsX12_planksNow (some .int)) (hn : x_n (GM l 1 21 D cI cZ ad a b A) = 3) {res : (Int32 × St)} (hR : HRi (GM l 1 21 D cI cZ ad a b A) cX12_planksNow tb res) : ∀ (n : Nat) (v1 : Int32) (v2 : Int32) (σ : St), mX12_planksNow_4 n v1 v2 σ = some res → Wk (GM l 1 21 D cI cZ ad a b A) 4 [(0, .ref (ad 0)), (1, .int v1), (2, .int v2)] [] σ := by
  intro n
  induction n with
  | zero => intro v1 v2 σ h; cases h
  | succ n ih =>
    intro v1 v2 σ h
    unfold mX12_planksNow_4 at h
    refine k_iload_n K dX12_planksNow_4 2 rfl ?_
    refine k_bipush (x := 60) K dX12_planksNow_5 (by decide) ?_
    refine k_icmp_ge (tgt := 32) K dX12_planksNow_7 (by decide) (fun q => ?_) (fun q => ?_)
    · have h := if_f q h
      refine k_iload_n K dX12_planksNow_32 1 rfl ?_
      exact ret_i hR h dX12_planksNow_33 trivial
    · have h := if_t q h
      refine k_iload_n K dX12_planksNow_10 1 rfl ?_
      refine k_aload_n K dX12_planksNow_11 0 rfl ?_
      refine k_iload_n K dX12_planksNow_12 2 rfl ?_
      obtain ⟨⟨r1, s2⟩, e3, h⟩ := bd_some h
      dsimp only at h
      refine k_callVi K 0 12 (Nat.le_of_ble_eq_true rfl) ((mM_0 cI cZ ad) _) rfl (ctX12_isPlank e3) (cwV 1 K.ts gX12_planksNow_X12_isPlank rfl rfl rfl hVX12_isPlank ⟨Nat.le_of_ble_eq_true rfl, Nat.le_of_ble_eq_true rfl⟩) rfl rfl (Nat.le_of_ble_eq_true rfl) dX12_planksNow_13 ?_
      refine k_if_eq (tgt := 23) K dX12_planksNow_16 (by decide) (fun q => ?_) (fun q => ?_)
      · have h := if_t q h
        refine k_iconst (x := 0) K dX12_planksNow_23 (by decide) ?_
        exact k_sub [0, 2] rfl (wX12_planksNow_24 K hn hR ih _ _ _ _ h)
      · have h := if_f q h
        refine k_iconst (x := 1) K dX12_planksNow_19 (by decide) ?_
        refine k_goto (tgt := 24) K dX12_planksNow_20 (by decide) ?_
        exact k_sub [0, 2] rfl (wX12_planksNow_24 K hn hR ih _ _ _ _ h)
set_option maxRecDepth 100000 in
set_option maxHeartbeats 4000000 in
theorem ctX12_planksNow {l : Launch} {D : va_G} {cI cZ : ClassId} {ad : Nat → Nat} {σ : St} {res : (Int32 × St)} (h : mX12_planksNow σ = some res) : Ci l yX12_planksNow wsX12_planksNow 1 21 D vwCl (tysM cI cZ) nwM (mkM cI cZ ad) ad 17 [.ref (ad 0)] σ res := by
  refine c_int (cc := cX12_planksNow) (maxL := 3) (by decide) rfl (Nat.le_of_ble_eq_true rfl) fun a b hn K hR => ?_
  unfold mX12_planksNow at h
  have K : KS (GM l 1 21 D cI cZ ad a b (w_A ad 17)) cX12_planksNow RX12 wsX12_planksNow (some .int) := K
  have hn : x_n (GM l 1 21 D cI cZ ad a b (w_A ad 17)) = 3 := hn
  refine k_sub [0] rfl ?_
  refine k_iconst (x := 0) K dX12_planksNow_0 (by decide) ?_
  refine k_istore_n (lv' := [(1, _), (0, _)]) K dX12_planksNow_1 (by rw [hn]; decide) rfl ?_
  refine k_iconst (x := 0) K dX12_planksNow_2 (by decide) ?_
  refine k_istore_n (lv' := [(2, _), (1, _), (0, _)]) K dX12_planksNow_3 (by rw [hn]; decide) rfl ?_
  exact k_sub [2, 1, 0] rfl (wX12_planksNow_4 K hn hR FU _ _ _ h)
-- X12_sets (3, 65)
set_option maxRecDepth 100000 in
set_option maxHeartbeats 4000000 in
theorem ctX12_sets {l : Launch} {D : va_G} {cI cZ : ClassId} {ad : Nat → Nat} {v1 : Int32} {v2 : Int32} {v3 : Int32} {σ : St} {res : (Int32 × St)} (h : mX12_sets v1 v2 v3 σ = some res) : Ci l yX12_sets wsX12_sets 3 65 D vwCl (tysM cI cZ) nwM (mkM cI cZ ad) ad 17 [.ref (ad 0), .int v1, .int v2, .int v3] σ res := by
  refine c_int (cc := cX12_sets) (maxL := 5) (by decide) rfl (Nat.le_of_ble_eq_true rfl) fun a b hn K hR => ?_
  unfold mX12_sets at h
  have K : KS (GM l 3 65 D cI cZ ad a b (w_A ad 17)) cX12_sets RX12 wsX12_sets (some .int) := K
  have hn : x_n (GM l 3 65 D cI cZ ad a b (w_A ad 17)) = 5 := hn
  refine k_sub [0, 1, 2, 3] rfl ?_
  refine k_aload_n K dX12_sets_0 0 rfl ?_
  refine k_iload_n K dX12_sets_1 1 rfl ?_
  refine k_iload_n K dX12_sets_2 2 rfl ?_
  obtain ⟨⟨r1, s2⟩, e3, h⟩ := bd_some h
  dsimp only at h
  refine k_callVi K 0 12 (Nat.le_of_ble_eq_true rfl) ((mM_0 cI cZ ad) _) rfl (ctX12_isCell e3) (cwV 2 K.ts gX12_sets_X12_isCell rfl rfl rfl hVX12_isCell ⟨Nat.le_of_ble_eq_true rfl, Nat.le_of_ble_eq_true rfl⟩) rfl rfl (Nat.le_of_ble_eq_true rfl) dX12_sets_3 ?_
  refine k_if_eq (tgt := 21) K dX12_sets_6 (by decide) (fun q => ?_) (fun q => ?_)
  · have h := if_t q h
    refine k_iconst (x := (-1)) K dX12_sets_21 (by decide) ?_
    exact ret_i hR h dX12_sets_22 trivial
  · have h := if_f q h
    refine k_iload_n K dX12_sets_9 3 rfl ?_
    refine k_i2l K dX12_sets_10 ?_
    refine k_lconst (v := 0) K dX12_sets_11 (by decide) ?_
    refine k_ldc2 (v := 3) K (by decide +kernel) dX12_sets_12 ?_
    obtain ⟨⟨r4, s5⟩, e6, h⟩ := bd_some h
    dsimp only at h
    refine k_callSi K (ctX12_in e6) (va_cwS 3 K.ts gX12_sets_X12_in rfl rfl rfl hSX12_in ⟨Nat.le_of_ble_eq_true rfl, Nat.le_of_ble_eq_true rfl⟩) rfl rfl (Nat.le_of_ble_eq_true rfl) dX12_sets_15 ?_
    refine k_if_ne (tgt := 23) K dX12_sets_18 (by decide) (fun q => ?_) (fun q => ?_)
    · have h := if_f q h
      refine k_aload_n K dX12_sets_23 0 rfl ?_
      refine k_iload_n K dX12_sets_24 1 rfl ?_
      refine k_iload_n K dX12_sets_25 2 rfl ?_
      obtain ⟨⟨r7, s8⟩, e9, h⟩ := bd_some h
      dsimp only at h
      refine k_callVi K 0 12 (Nat.le_of_ble_eq_true rfl) ((mM_0 cI cZ ad) _) rfl (ctX12_bit e9) (cwV 2 K.ts gX12_sets_X12_bit rfl rfl rfl hVX12_bit ⟨Nat.le_of_ble_eq_true rfl, Nat.le_of_ble_eq_true rfl⟩) rfl rfl (Nat.le_of_ble_eq_true rfl) dX12_sets_26 ?_
      refine k_istore (lv' := [(4, _), (0, _), (1, _), (2, _), (3, _)]) K dX12_sets_29 (by rw [hn]; decide) rfl ?_
      refine k_aload_n K dX12_sets_31 1 rfl ?_
      refine k_iload K dX12_sets_32 0 rfl ?_
      refine k_iload_n K dX12_sets_34 4 rfl ?_
      obtain ⟨⟨r10, s11⟩, e12, h⟩ := bd_some h
      dsimp only at h
      refine k_callVi K 0 12 (Nat.le_of_ble_eq_true rfl) ((mM_0 cI cZ ad) _) rfl (ctX12_isShut e12) (cwV 2 K.ts gX12_sets_X12_isShut rfl rfl rfl hVX12_isShut ⟨Nat.le_of_ble_eq_true rfl, Nat.le_of_ble_eq_true rfl⟩) rfl rfl (Nat.le_of_ble_eq_true rfl) dX12_sets_35 ?_
      refine k_if_eq (tgt := 44) K dX12_sets_38 (by decide) (fun q => ?_) (fun q => ?_)
      · have h := if_t q h
        refine k_aload_n K dX12_sets_44 1 rfl ?_
        obtain ⟨⟨r13, s14⟩, e15, h⟩ := bd_some h
        dsimp only at h
        refine k_callVi K 0 12 (Nat.le_of_ble_eq_true rfl) ((mM_0 cI cZ ad) _) rfl (ctX12_planksNow e15) (cwV 0 K.ts gX12_sets_X12_planksNow rfl rfl rfl hVX12_planksNow ⟨Nat.le_of_ble_eq_true rfl, Nat.le_of_ble_eq_true rfl⟩) rfl rfl (Nat.le_of_ble_eq_true rfl) dX12_sets_45 ?_
        refine k_bipush (x := 8) K dX12_sets_48 (by decide) ?_
        refine k_icmp_ne (tgt := 56) K dX12_sets_50 (by decide) (fun q => ?_) (fun q => ?_)
        · have h := if_f q h
          refine k_aload_n K dX12_sets_56 1 rfl ?_
          obtain ⟨⟨r16, s17⟩, e18, h⟩ := bd_some h
          dsimp only at h
          refine k_callVv K 0 12 (Nat.le_of_ble_eq_true rfl) ((mM_0 cI cZ ad) _) rfl (ctX12_keepPast e18) (cwV 0 K.ts gX12_sets_X12_keepPast rfl rfl rfl hVX12_keepPast ⟨Nat.le_of_ble_eq_true rfl, Nat.le_of_ble_eq_true rfl⟩) rfl rfl (Nat.le_of_ble_eq_true rfl) dX12_sets_57 ?_
          refine k_aload_n K dX12_sets_60 1 rfl ?_
          refine k_aload_n K dX12_sets_61 1 rfl ?_
          refine k_iload K dX12_sets_62 0 rfl ?_
          refine k_iload_n K dX12_sets_64 4 rfl ?_
          obtain ⟨⟨r19, s20⟩, e21, h⟩ := bd_some h
          dsimp only at h
          refine k_callVi K 0 12 (Nat.le_of_ble_eq_true rfl) ((mM_0 cI cZ ad) _) rfl (ctX12_sideOf e21) (cwV 2 K.ts gX12_sets_X12_sideOf rfl rfl rfl hVX12_sideOf ⟨Nat.le_of_ble_eq_true rfl, Nat.le_of_ble_eq_true rfl⟩) rfl rfl (Nat.le_of_ble_eq_true rfl) dX12_sets_65 ?_
          obtain ⟨⟨r22, s23⟩, e24, h⟩ := bd_some h
          dsimp only at h
          refine k_callVv K 0 12 (Nat.le_of_ble_eq_true rfl) ((mM_0 cI cZ ad) _) rfl (ctX12_setPlank e24) (cwV 1 K.ts gX12_sets_X12_setPlank rfl rfl rfl hVX12_setPlank ⟨Nat.le_of_ble_eq_true rfl, Nat.le_of_ble_eq_true rfl⟩) rfl rfl (Nat.le_of_ble_eq_true rfl) dX12_sets_68 ?_
          refine k_aload_n K dX12_sets_71 1 rfl ?_
          obtain ⟨⟨r25, s26⟩, e27, h⟩ := bd_some h
          dsimp only at h
          refine k_callVi K 0 12 (Nat.le_of_ble_eq_true rfl) ((mM_0 cI cZ ad) _) rfl (ctX12_planksNow e27) (cwV 0 K.ts gX12_sets_X12_planksNow rfl rfl rfl hVX12_planksNow ⟨Nat.le_of_ble_eq_true rfl, Nat.le_of_ble_eq_true rfl⟩) rfl rfl (Nat.le_of_ble_eq_true rfl) dX12_sets_72 ?_
          exact ret_i hR h dX12_sets_75 trivial
        · have h := if_t q h
          refine k_bipush (x := (-3)) K dX12_sets_53 (by decide) ?_
          exact ret_i hR h dX12_sets_55 trivial
      · have h := if_f q h
        refine k_bipush (x := (-2)) K dX12_sets_41 (by decide) ?_
        exact ret_i hR h dX12_sets_43 trivial
    · have h := if_t q h
      refine k_iconst (x := (-1)) K dX12_sets_21 (by decide) ?_
      exact ret_i hR h dX12_sets_22 trivial
-- X12_takes (2, 47)
set_option maxRecDepth 100000 in
set_option maxHeartbeats 4000000 in
theorem ctX12_takes {l : Launch} {D : va_G} {cI cZ : ClassId} {ad : Nat → Nat} {v1 : Int32} {v2 : Int32} {v3 : Int32} {σ : St} {res : (Int32 × St)} (h : mX12_takes v1 v2 v3 σ = some res) : Ci l yX12_takes wsX12_takes 2 47 D vwCl (tysM cI cZ) nwM (mkM cI cZ ad) ad 17 [.ref (ad 0), .int v1, .int v2, .int v3] σ res := by
  refine c_int (cc := cX12_takes) (maxL := 5) (by decide) rfl (Nat.le_of_ble_eq_true rfl) fun a b hn K hR => ?_
  unfold mX12_takes at h
  have K : KS (GM l 2 47 D cI cZ ad a b (w_A ad 17)) cX12_takes RX12 wsX12_takes (some .int) := K
  have hn : x_n (GM l 2 47 D cI cZ ad a b (w_A ad 17)) = 5 := hn
  refine k_sub [0, 1, 2, 3] rfl ?_
  refine k_aload_n K dX12_takes_0 0 rfl ?_
  refine k_iload_n K dX12_takes_1 1 rfl ?_
  refine k_iload_n K dX12_takes_2 2 rfl ?_
  obtain ⟨⟨r1, s2⟩, e3, h⟩ := bd_some h
  dsimp only at h
  refine k_callVi K 0 12 (Nat.le_of_ble_eq_true rfl) ((mM_0 cI cZ ad) _) rfl (ctX12_isCell e3) (cwV 2 K.ts gX12_takes_X12_isCell rfl rfl rfl hVX12_isCell ⟨Nat.le_of_ble_eq_true rfl, Nat.le_of_ble_eq_true rfl⟩) rfl rfl (Nat.le_of_ble_eq_true rfl) dX12_takes_3 ?_
  refine k_if_eq (tgt := 21) K dX12_takes_6 (by decide) (fun q => ?_) (fun q => ?_)
  · have h := if_t q h
    refine k_iconst (x := (-1)) K dX12_takes_21 (by decide) ?_
    exact ret_i hR h dX12_takes_22 trivial
  · have h := if_f q h
    refine k_iload_n K dX12_takes_9 3 rfl ?_
    refine k_i2l K dX12_takes_10 ?_
    refine k_lconst (v := 0) K dX12_takes_11 (by decide) ?_
    refine k_ldc2 (v := 3) K (by decide +kernel) dX12_takes_12 ?_
    obtain ⟨⟨r4, s5⟩, e6, h⟩ := bd_some h
    dsimp only at h
    refine k_callSi K (ctX12_in e6) (va_cwS 3 K.ts gX12_takes_X12_in rfl rfl rfl hSX12_in ⟨Nat.le_of_ble_eq_true rfl, Nat.le_of_ble_eq_true rfl⟩) rfl rfl (Nat.le_of_ble_eq_true rfl) dX12_takes_15 ?_
    refine k_if_ne (tgt := 23) K dX12_takes_18 (by decide) (fun q => ?_) (fun q => ?_)
    · have h := if_f q h
      refine k_aload_n K dX12_takes_23 0 rfl ?_
      refine k_iload_n K dX12_takes_24 1 rfl ?_
      refine k_iload_n K dX12_takes_25 2 rfl ?_
      obtain ⟨⟨r7, s8⟩, e9, h⟩ := bd_some h
      dsimp only at h
      refine k_callVi K 0 12 (Nat.le_of_ble_eq_true rfl) ((mM_0 cI cZ ad) _) rfl (ctX12_bit e9) (cwV 2 K.ts gX12_takes_X12_bit rfl rfl rfl hVX12_bit ⟨Nat.le_of_ble_eq_true rfl, Nat.le_of_ble_eq_true rfl⟩) rfl rfl (Nat.le_of_ble_eq_true rfl) dX12_takes_26 ?_
      refine k_istore (lv' := [(4, _), (0, _), (1, _), (2, _), (3, _)]) K dX12_takes_29 (by rw [hn]; decide) rfl ?_
      refine k_aload_n K dX12_takes_31 1 rfl ?_
      refine k_iload K dX12_takes_32 0 rfl ?_
      refine k_iload_n K dX12_takes_34 4 rfl ?_
      obtain ⟨⟨r10, s11⟩, e12, h⟩ := bd_some h
      dsimp only at h
      refine k_callVi K 0 12 (Nat.le_of_ble_eq_true rfl) ((mM_0 cI cZ ad) _) rfl (ctX12_isEdge e12) (cwV 2 K.ts gX12_takes_X12_isEdge rfl rfl rfl hVX12_isEdge ⟨Nat.le_of_ble_eq_true rfl, Nat.le_of_ble_eq_true rfl⟩) rfl rfl (Nat.le_of_ble_eq_true rfl) dX12_takes_35 ?_
      refine k_if_ne (tgt := 55) K dX12_takes_38 (by decide) (fun q => ?_) (fun q => ?_)
      · have h := if_f q h
        refine k_bipush (x := (-2)) K dX12_takes_55 (by decide) ?_
        exact ret_i hR h dX12_takes_57 trivial
      · have h := if_t q h
        refine k_aload_n K dX12_takes_41 1 rfl ?_
        refine k_aload_n K dX12_takes_42 1 rfl ?_
        refine k_iload K dX12_takes_43 0 rfl ?_
        refine k_iload_n K dX12_takes_45 4 rfl ?_
        obtain ⟨⟨r13, s14⟩, e15, h⟩ := bd_some h
        dsimp only at h
        refine k_callVi K 0 12 (Nat.le_of_ble_eq_true rfl) ((mM_0 cI cZ ad) _) rfl (ctX12_sideOf e15) (cwV 2 K.ts gX12_takes_X12_sideOf rfl rfl rfl hVX12_sideOf ⟨Nat.le_of_ble_eq_true rfl, Nat.le_of_ble_eq_true rfl⟩) rfl rfl (Nat.le_of_ble_eq_true rfl) dX12_takes_46 ?_
        obtain ⟨⟨r16, s17⟩, e18, h⟩ := bd_some h
        dsimp only at h
        refine k_callVi K 0 12 (Nat.le_of_ble_eq_true rfl) ((mM_0 cI cZ ad) _) rfl (ctX12_isPlank e18) (cwV 1 K.ts gX12_takes_X12_isPlank rfl rfl rfl hVX12_isPlank ⟨Nat.le_of_ble_eq_true rfl, Nat.le_of_ble_eq_true rfl⟩) rfl rfl (Nat.le_of_ble_eq_true rfl) dX12_takes_49 ?_
        refine k_if_ne (tgt := 58) K dX12_takes_52 (by decide) (fun q => ?_) (fun q => ?_)
        · have h := if_f q h
          refine k_aload_n K dX12_takes_58 1 rfl ?_
          obtain ⟨⟨r19, s20⟩, e21, h⟩ := bd_some h
          dsimp only at h
          refine k_callVv K 0 12 (Nat.le_of_ble_eq_true rfl) ((mM_0 cI cZ ad) _) rfl (ctX12_keepPast e21) (cwV 0 K.ts gX12_takes_X12_keepPast rfl rfl rfl hVX12_keepPast ⟨Nat.le_of_ble_eq_true rfl, Nat.le_of_ble_eq_true rfl⟩) rfl rfl (Nat.le_of_ble_eq_true rfl) dX12_takes_59 ?_
          refine k_aload_n K dX12_takes_62 1 rfl ?_
          refine k_aload_n K dX12_takes_63 1 rfl ?_
          refine k_iload K dX12_takes_64 0 rfl ?_
          refine k_iload_n K dX12_takes_66 4 rfl ?_
          obtain ⟨⟨r22, s23⟩, e24, h⟩ := bd_some h
          dsimp only at h
          refine k_callVi K 0 12 (Nat.le_of_ble_eq_true rfl) ((mM_0 cI cZ ad) _) rfl (ctX12_sideOf e24) (cwV 2 K.ts gX12_takes_X12_sideOf rfl rfl rfl hVX12_sideOf ⟨Nat.le_of_ble_eq_true rfl, Nat.le_of_ble_eq_true rfl⟩) rfl rfl (Nat.le_of_ble_eq_true rfl) dX12_takes_67 ?_
          obtain ⟨⟨r25, s26⟩, e27, h⟩ := bd_some h
          dsimp only at h
          refine k_callVv K 0 12 (Nat.le_of_ble_eq_true rfl) ((mM_0 cI cZ ad) _) rfl (ctX12_setPlank e27) (cwV 1 K.ts gX12_takes_X12_setPlank rfl rfl rfl hVX12_setPlank ⟨Nat.le_of_ble_eq_true rfl, Nat.le_of_ble_eq_true rfl⟩) rfl rfl (Nat.le_of_ble_eq_true rfl) dX12_takes_70 ?_
          refine k_aload_n K dX12_takes_73 1 rfl ?_
          obtain ⟨⟨r28, s29⟩, e30, h⟩ := bd_some h
          dsimp only at h
          refine k_callVi K 0 12 (Nat.le_of_ble_eq_true rfl) ((mM_0 cI cZ ad) _) rfl (ctX12_planksNow e30) (cwV 0 K.ts gX12_takes_X12_planksNow rfl rfl rfl hVX12_planksNow ⟨Nat.le_of_ble_eq_true rfl, Nat.le_of_ble_eq_true rfl⟩) rfl rfl (Nat.le_of_ble_eq_true rfl) dX12_takes_74 ?_
          exact ret_i hR h dX12_takes_77 trivial
        · have h := if_t q h
          refine k_bipush (x := (-2)) K dX12_takes_55 (by decide) ?_
          exact ret_i hR h dX12_takes_57 trivial
    · have h := if_t q h
      refine k_iconst (x := (-1)) K dX12_takes_21 (by decide) ?_
      exact ret_i hR h dX12_takes_22 trivial
-- X12_cobble (2, 47)
theorem iX12_cobble_X12 : ∀ w ∈ wsX120, w ∈ wsX12_cobble := fun _ h => List.mem_cons_of_mem _ (List.mem_append_right _ h)
theorem fX12_cobble_7 : Cond.fieldLink RX12 7 "SlopeCoinsModel" "row" "[I" ∈ wsX12_cobble := by decide +kernel
set_option maxRecDepth 100000 in
set_option maxHeartbeats 4000000 in
theorem wX12_cobble_48 {l : Launch} {D : va_G} {cI cZ : ClassId} {ad : Nat → Nat} {a : Program × Env × State × MethodId} {b : Array Value × List Frame × Method × Code × (State → Prop) × Nat} {A : Nat → Prop} (K : KS (GM l 2 47 D cI cZ ad a b A) cX12_cobble RX12 wsX12_cobble (some .int)) (hn : x_n (GM l 2 47 D cI cZ ad a b A) = 6) {res : (Int32 × St)} (hR : HRi (GM l 2 47 D cI cZ ad a b A) cX12_cobble tb res) : ∀ (v4 : Int32), ∀ (t0 : Int32), ∀ (t1 : Int32), ∀ (σ : St), mX12_cobble_48 v4 t0 t1 σ = some res → Wk (GM l 2 47 D cI cZ ad a b A) 48 [(0, .ref (ad 0)), (4, .int v4)] [.int t0, .int t1] σ := by
  intro v4 t0 t1 σ h
  unfold mX12_cobble_48 at h
  refine k_iadd K dX12_cobble_48 ?_
  have h := lt_some h
  refine k_istore (lv' := [(5, _), (0, _), (4, _)]) K dX12_cobble_49 (by rw [hn]; decide) rfl ?_
  refine k_iload K dX12_cobble_51 0 rfl ?_
  refine k_i2l K dX12_cobble_53 ?_
  refine k_lconst (v := 0) K dX12_cobble_54 (by decide) ?_
  refine k_ldc2 (v := 9) K (by decide +kernel) dX12_cobble_55 ?_
  obtain ⟨⟨r12, s13⟩, e14, h⟩ := bd_some h
  dsimp only at h
  refine k_callSi K (ctX12_in e14) (va_cwS 3 K.ts gX12_cobble_X12_in rfl rfl rfl hSX12_in ⟨Nat.le_of_ble_eq_true rfl, Nat.le_of_ble_eq_true rfl⟩) rfl rfl (Nat.le_of_ble_eq_true rfl) dX12_cobble_58 ?_
  refine k_if_ne (tgt := 67) K dX12_cobble_61 (by decide) (fun q => ?_) (fun q => ?_)
  · have h := if_f q h
    refine k_aload_n K dX12_cobble_67 1 rfl ?_
    obtain ⟨⟨r15, s16⟩, e17, h⟩ := bd_some h
    dsimp only at h
    refine k_callVv K 0 12 (Nat.le_of_ble_eq_true rfl) ((mM_0 cI cZ ad) _) rfl (ctX12_keepPast e17) (cwV 0 K.ts gX12_cobble_X12_keepPast rfl rfl rfl hVX12_keepPast ⟨Nat.le_of_ble_eq_true rfl, Nat.le_of_ble_eq_true rfl⟩) rfl rfl (Nat.le_of_ble_eq_true rfl) dX12_cobble_68 ?_
    refine k_aload_n K dX12_cobble_71 1 rfl ?_
    refine k_get K 0 12 0 iX12_cobble_X12 (Nat.le_of_ble_eq_true rfl) ((mM_0 cI cZ ad) _) rfl (by decide) fX12_cobble_7 rfl dX12_cobble_72 ?_
    refine k_iconst (x := 1) K dX12_cobble_75 (by decide) ?_
    refine k_iload K dX12_cobble_76 2 rfl ?_
    refine k_iadd K dX12_cobble_78 ?_
    refine k_iload K dX12_cobble_79 0 rfl ?_
    obtain ⟨g18, h⟩ := gd_some h
    have h := lt_some h
    refine k_ist K 1 0 (Nat.le_of_ble_eq_true rfl) (mM_1 cI cZ ad) rfl g18 dX12_cobble_81 ?_
    refine k_iload K dX12_cobble_82 0 rfl ?_
    exact ret_i hR h dX12_cobble_84 trivial
  · have h := if_t q h
    refine k_bipush (x := (-2)) K dX12_cobble_64 (by decide) ?_
    exact ret_i hR h dX12_cobble_66 trivial
set_option maxRecDepth 100000 in
set_option maxHeartbeats 4000000 in
theorem ctX12_cobble {l : Launch} {D : va_G} {cI cZ : ClassId} {ad : Nat → Nat} {v1 : Int32} {v2 : Int32} {v3 : Int32} {σ : St} {res : (Int32 × St)} (h : mX12_cobble v1 v2 v3 σ = some res) : Ci l yX12_cobble wsX12_cobble 2 47 D vwCl (tysM cI cZ) nwM (mkM cI cZ ad) ad 17 [.ref (ad 0), .int v1, .int v2, .int v3] σ res := by
  refine c_int (cc := cX12_cobble) (maxL := 6) (by decide) rfl (Nat.le_of_ble_eq_true rfl) fun a b hn K hR => ?_
  unfold mX12_cobble at h
  have K : KS (GM l 2 47 D cI cZ ad a b (w_A ad 17)) cX12_cobble RX12 wsX12_cobble (some .int) := K
  have hn : x_n (GM l 2 47 D cI cZ ad a b (w_A ad 17)) = 6 := hn
  refine k_sub [0, 1, 2, 3] rfl ?_
  refine k_aload_n K dX12_cobble_0 0 rfl ?_
  refine k_iload_n K dX12_cobble_1 1 rfl ?_
  refine k_iload_n K dX12_cobble_2 2 rfl ?_
  obtain ⟨⟨r1, s2⟩, e3, h⟩ := bd_some h
  dsimp only at h
  refine k_callVi K 0 12 (Nat.le_of_ble_eq_true rfl) ((mM_0 cI cZ ad) _) rfl (ctX12_isCell e3) (cwV 2 K.ts gX12_cobble_X12_isCell rfl rfl rfl hVX12_isCell ⟨Nat.le_of_ble_eq_true rfl, Nat.le_of_ble_eq_true rfl⟩) rfl rfl (Nat.le_of_ble_eq_true rfl) dX12_cobble_3 ?_
  refine k_if_eq (tgt := 19) K dX12_cobble_6 (by decide) (fun q => ?_) (fun q => ?_)
  · have h := if_t q h
    refine k_iconst (x := (-1)) K dX12_cobble_19 (by decide) ?_
    exact ret_i hR h dX12_cobble_20 trivial
  · have h := if_f q h
    refine k_iload_n K dX12_cobble_9 3 rfl ?_
    refine k_i2l K dX12_cobble_10 ?_
    refine k_lconst (v := 0) K dX12_cobble_11 (by decide) ?_
    refine k_lconst (v := 1) K dX12_cobble_12 (by decide) ?_
    obtain ⟨⟨r4, s5⟩, e6, h⟩ := bd_some h
    dsimp only at h
    refine k_callSi K (ctX12_in e6) (va_cwS 3 K.ts gX12_cobble_X12_in rfl rfl rfl hSX12_in ⟨Nat.le_of_ble_eq_true rfl, Nat.le_of_ble_eq_true rfl⟩) rfl rfl (Nat.le_of_ble_eq_true rfl) dX12_cobble_13 ?_
    refine k_if_ne (tgt := 21) K dX12_cobble_16 (by decide) (fun q => ?_) (fun q => ?_)
    · have h := if_f q h
      refine k_aload_n K dX12_cobble_21 0 rfl ?_
      refine k_iload_n K dX12_cobble_22 1 rfl ?_
      refine k_iload_n K dX12_cobble_23 2 rfl ?_
      obtain ⟨⟨r7, s8⟩, e9, h⟩ := bd_some h
      dsimp only at h
      refine k_callVi K 0 12 (Nat.le_of_ble_eq_true rfl) ((mM_0 cI cZ ad) _) rfl (ctX12_bit e9) (cwV 2 K.ts gX12_cobble_X12_bit rfl rfl rfl hVX12_bit ⟨Nat.le_of_ble_eq_true rfl, Nat.le_of_ble_eq_true rfl⟩) rfl rfl (Nat.le_of_ble_eq_true rfl) dX12_cobble_24 ?_
      refine k_istore (lv' := [(4, _), (0, _), (1, _), (2, _), (3, _)]) K dX12_cobble_27 (by rw [hn]; decide) rfl ?_
      refine k_aload_n K dX12_cobble_29 1 rfl ?_
      refine k_get K 0 12 0 iX12_cobble_X12 (Nat.le_of_ble_eq_true rfl) ((mM_0 cI cZ ad) _) rfl (by decide) fX12_cobble_7 rfl dX12_cobble_30 ?_
      refine k_iconst (x := 1) K dX12_cobble_33 (by decide) ?_
      refine k_iload K dX12_cobble_34 0 rfl ?_
      refine k_iadd K dX12_cobble_36 ?_
      obtain ⟨g10, h⟩ := gd_some h
      refine k_ild K 1 0 (Nat.le_of_ble_eq_true rfl) ((mM_1 cI cZ ad) _) rfl g10 dX12_cobble_37 ?_
      refine k_iload_n K dX12_cobble_38 4 rfl ?_
      refine k_iconst (x := 1) K dX12_cobble_39 (by decide) ?_
      refine k_icmp_ne (tgt := 47) K dX12_cobble_40 (by decide) (fun q => ?_) (fun q => ?_)
      · have h := if_f q h
        refine k_iconst (x := (-1)) K dX12_cobble_47 (by decide) ?_
        exact k_sub [1, 0] rfl (wX12_cobble_48 K hn hR _ _ _ _ h)
      · have h := if_t q h
        refine k_iconst (x := 1) K dX12_cobble_43 (by decide) ?_
        refine k_goto (tgt := 48) K dX12_cobble_44 (by decide) ?_
        exact k_sub [1, 0] rfl (wX12_cobble_48 K hn hR _ _ _ _ h)
    · have h := if_t q h
      refine k_iconst (x := (-1)) K dX12_cobble_19 (by decide) ?_
      exact ret_i hR h dX12_cobble_20 trivial
-- X12_sweep (2, 47)
theorem iX12_sweep_X12 : ∀ w ∈ wsX120, w ∈ wsX12_sweep := fun _ h => List.mem_cons_of_mem _ (List.mem_append_right _ h)
theorem fX12_sweep_7 : Cond.fieldLink RX12 7 "SlopeCoinsModel" "row" "[I" ∈ wsX12_sweep := by decide +kernel
set_option maxRecDepth 100000 in
set_option maxHeartbeats 4000000 in
theorem ctX12_sweep {l : Launch} {D : va_G} {cI cZ : ClassId} {ad : Nat → Nat} {v1 : Int32} {v2 : Int32} {σ : St} {res : (Int32 × St)} (h : mX12_sweep v1 v2 σ = some res) : Ci l yX12_sweep wsX12_sweep 2 47 D vwCl (tysM cI cZ) nwM (mkM cI cZ ad) ad 17 [.ref (ad 0), .int v1, .int v2] σ res := by
  refine c_int (cc := cX12_sweep) (maxL := 5) (by decide) rfl (Nat.le_of_ble_eq_true rfl) fun a b hn K hR => ?_
  unfold mX12_sweep at h
  have K : KS (GM l 2 47 D cI cZ ad a b (w_A ad 17)) cX12_sweep RX12 wsX12_sweep (some .int) := K
  have hn : x_n (GM l 2 47 D cI cZ ad a b (w_A ad 17)) = 5 := hn
  refine k_sub [0, 1, 2] rfl ?_
  refine k_aload_n K dX12_sweep_0 0 rfl ?_
  refine k_iload_n K dX12_sweep_1 1 rfl ?_
  refine k_iload_n K dX12_sweep_2 2 rfl ?_
  obtain ⟨⟨r1, s2⟩, e3, h⟩ := bd_some h
  dsimp only at h
  refine k_callVi K 0 12 (Nat.le_of_ble_eq_true rfl) ((mM_0 cI cZ ad) _) rfl (ctX12_isCell e3) (cwV 2 K.ts gX12_sweep_X12_isCell rfl rfl rfl hVX12_isCell ⟨Nat.le_of_ble_eq_true rfl, Nat.le_of_ble_eq_true rfl⟩) rfl rfl (Nat.le_of_ble_eq_true rfl) dX12_sweep_3 ?_
  refine k_if_ne (tgt := 11) K dX12_sweep_6 (by decide) (fun q => ?_) (fun q => ?_)
  · have h := if_f q h
    refine k_aload_n K dX12_sweep_11 0 rfl ?_
    refine k_iload_n K dX12_sweep_12 1 rfl ?_
    refine k_iload_n K dX12_sweep_13 2 rfl ?_
    obtain ⟨⟨r4, s5⟩, e6, h⟩ := bd_some h
    dsimp only at h
    refine k_callVi K 0 12 (Nat.le_of_ble_eq_true rfl) ((mM_0 cI cZ ad) _) rfl (ctX12_bit e6) (cwV 2 K.ts gX12_sweep_X12_bit rfl rfl rfl hVX12_bit ⟨Nat.le_of_ble_eq_true rfl, Nat.le_of_ble_eq_true rfl⟩) rfl rfl (Nat.le_of_ble_eq_true rfl) dX12_sweep_14 ?_
    refine k_istore_n (lv' := [(3, _), (0, _), (1, _), (2, _)]) K dX12_sweep_17 (by rw [hn]; decide) rfl ?_
    refine k_aload_n K dX12_sweep_18 1 rfl ?_
    refine k_iload_n K dX12_sweep_19 0 rfl ?_
    obtain ⟨⟨r7, s8⟩, e9, h⟩ := bd_some h
    dsimp only at h
    refine k_callVi K 0 12 (Nat.le_of_ble_eq_true rfl) ((mM_0 cI cZ ad) _) rfl (ctX12_liesOn e9) (cwV 1 K.ts gX12_sweep_X12_liesOn rfl rfl rfl hVX12_liesOn ⟨Nat.le_of_ble_eq_true rfl, Nat.le_of_ble_eq_true rfl⟩) rfl rfl (Nat.le_of_ble_eq_true rfl) dX12_sweep_20 ?_
    refine k_if_ne (tgt := 29) K dX12_sweep_23 (by decide) (fun q => ?_) (fun q => ?_)
    · have h := if_f q h
      refine k_aload_n K dX12_sweep_29 1 rfl ?_
      obtain ⟨⟨r10, s11⟩, e12, h⟩ := bd_some h
      dsimp only at h
      refine k_callVv K 0 12 (Nat.le_of_ble_eq_true rfl) ((mM_0 cI cZ ad) _) rfl (ctX12_keepPast e12) (cwV 0 K.ts gX12_sweep_X12_keepPast rfl rfl rfl hVX12_keepPast ⟨Nat.le_of_ble_eq_true rfl, Nat.le_of_ble_eq_true rfl⟩) rfl rfl (Nat.le_of_ble_eq_true rfl) dX12_sweep_30 ?_
      refine k_aload_n K dX12_sweep_33 1 rfl ?_
      refine k_get K 0 12 0 iX12_sweep_X12 (Nat.le_of_ble_eq_true rfl) ((mM_0 cI cZ ad) _) rfl (by decide) fX12_sweep_7 rfl dX12_sweep_34 ?_
      refine k_bipush (x := 61) K dX12_sweep_37 (by decide) ?_
      refine k_iload_n K dX12_sweep_39 0 rfl ?_
      refine k_iadd K dX12_sweep_40 ?_
      obtain ⟨g13, h⟩ := gd_some h
      refine k_ild K 1 0 (Nat.le_of_ble_eq_true rfl) ((mM_1 cI cZ ad) _) rfl g13 dX12_sweep_41 ?_
      have h := lt_some h
      refine k_istore (lv' := [(4, _), (3, _), (0, _), (1, _), (2, _)]) K dX12_sweep_42 (by rw [hn]; decide) rfl ?_
      refine k_aload_n K dX12_sweep_44 2 rfl ?_
      refine k_get K 0 12 0 iX12_sweep_X12 (Nat.le_of_ble_eq_true rfl) ((mM_0 cI cZ ad) _) rfl (by decide) fX12_sweep_7 rfl dX12_sweep_45 ?_
      refine k_bipush (x := 31) K dX12_sweep_48 (by decide) ?_
      refine k_iload_n K dX12_sweep_50 1 rfl ?_
      refine k_iadd K dX12_sweep_51 ?_
      refine k_dup2 K dX12_sweep_52 rfl rfl ?_
      obtain ⟨g15, h⟩ := gd_some h
      refine k_ild K 1 0 (Nat.le_of_ble_eq_true rfl) ((mM_1 cI cZ ad) _) rfl g15 dX12_sweep_53 ?_
      refine k_aload_n K dX12_sweep_54 2 rfl ?_
      refine k_iload_n K dX12_sweep_55 1 rfl ?_
      obtain ⟨⟨r16, s17⟩, e18, h⟩ := bd_some h
      dsimp only at h
      refine k_callVi K 0 12 (Nat.le_of_ble_eq_true rfl) ((mM_0 cI cZ ad) _) rfl (ctX12_liesOn e18) (cwV 1 K.ts gX12_sweep_X12_liesOn rfl rfl rfl hVX12_liesOn ⟨Nat.le_of_ble_eq_true rfl, Nat.le_of_ble_eq_true rfl⟩) rfl rfl (Nat.le_of_ble_eq_true rfl) dX12_sweep_56 ?_
      refine k_isub K dX12_sweep_59 ?_
      obtain ⟨g19, h⟩ := gd_some h
      have h := lt_some h
      refine k_ist K 1 0 (Nat.le_of_ble_eq_true rfl) (mM_1 cI cZ ad) rfl g19 dX12_sweep_60 ?_
      refine k_aload_n K dX12_sweep_61 2 rfl ?_
      refine k_get K 0 12 0 iX12_sweep_X12 (Nat.le_of_ble_eq_true rfl) ((mM_0 cI cZ ad) _) rfl (by decide) fX12_sweep_7 rfl dX12_sweep_62 ?_
      refine k_bipush (x := 61) K dX12_sweep_65 (by decide) ?_
      refine k_iload_n K dX12_sweep_67 1 rfl ?_
      refine k_iadd K dX12_sweep_68 ?_
      refine k_iconst (x := 0) K dX12_sweep_69 (by decide) ?_
      obtain ⟨g21, h⟩ := gd_some h
      have h := lt_some h
      refine k_ist K 1 0 (Nat.le_of_ble_eq_true rfl) (mM_1 cI cZ ad) rfl g21 dX12_sweep_70 ?_
      refine k_iload K dX12_sweep_71 0 rfl ?_
      exact ret_i hR h dX12_sweep_73 trivial
    · have h := if_t q h
      refine k_bipush (x := (-2)) K dX12_sweep_26 (by decide) ?_
      exact ret_i hR h dX12_sweep_28 trivial
  · have h := if_t q h
    refine k_iconst (x := (-1)) K dX12_sweep_9 (by decide) ?_
    exact ret_i hR h dX12_sweep_10 trivial
-- X12_undo (0, 0)
theorem iX12_undo_X12 : ∀ w ∈ wsX120, w ∈ wsX12_undo := fun _ h => List.mem_cons_of_mem _ (List.mem_append_right _ h)
theorem fX12_undo_7 : Cond.fieldLink RX12 7 "SlopeCoinsModel" "row" "[I" ∈ wsX12_undo := by decide +kernel
set_option maxRecDepth 100000 in
set_option maxHeartbeats 4000000 in
theorem wX12_undo_66 {l : Launch} {D : va_G} {cI cZ : ClassId} {ad : Nat → Nat} {a : Program × Env × State × MethodId} {b : Array Value × List Frame × Method × Code × (State → Prop) × Nat} {A : Nat → Prop} (K : KS (GM l 0 0 D cI cZ ad a b A) cX12_undo RX12 wsX12_undo (some .int)) (hn : x_n (GM l 0 0 D cI cZ ad a b A) = 2) {res : (Int32 × St)} (hR : HRi (GM l 0 0 D cI cZ ad a b A) cX12_undo tb res) : ∀ (σ : St), mX12_undo_66 σ = some res → Wk (GM l 0 0 D cI cZ ad a b A) 66 [(0, .ref (ad 0))] [] σ := by
  intro σ h
  unfold mX12_undo_66 at h
  refine k_aload_n K dX12_undo_66 0 rfl ?_
  refine k_get K 0 12 0 iX12_undo_X12 (Nat.le_of_ble_eq_true rfl) ((mM_0 cI cZ ad) _) rfl (by decide) fX12_undo_7 rfl dX12_undo_67 ?_
  refine k_iconst (x := 0) K dX12_undo_70 (by decide) ?_
  obtain ⟨g5, h⟩ := gd_some h
  refine k_ild K 1 0 (Nat.le_of_ble_eq_true rfl) ((mM_1 cI cZ ad) _) rfl g5 dX12_undo_71 ?_
  exact ret_i hR h dX12_undo_72 trivial
set_option maxRecDepth 100000 in
set_option maxHeartbeats 4000000 in
theorem wX12_undo_24 {l : Launch} {D : va_G} {cI cZ : ClassId} {ad : Nat → Nat} {a : Program × Env × State × MethodId} {b : Array Value × List Frame × Method × Code × (State → Prop) × Nat} {A : Nat → Prop} {k66 : St → Option (Int32 × St)} (K : KS (GM l 0 0 D cI cZ ad a b A) cX12_undo RX12 wsX12_undo (some .int)) (hn : x_n (GM l 0 0 D cI cZ ad a b A) = 2) {res : (Int32 × St)} (hR : HRi (GM l 0 0 D cI cZ ad a b A) cX12_undo tb res) (hk66 : ∀ (σ : St), k66 σ = some res → Wk (GM l 0 0 D cI cZ ad a b A) 66 [(0, .ref (ad 0))] [] σ) : ∀ (n : Nat) (v1 : Int32) (σ : St), mX12_undo_24 k66 n v1 σ = some res → Wk (GM l 0 0 D cI cZ ad a b A) 24 [(0, .ref (ad 0)), (1, .int v1)] [] σ := by
  intro n
  induction n with
  | zero => intro v1 σ h; cases h
  | succ n ih =>
    intro v1 σ h
    unfold mX12_undo_24 at h
    refine k_iload_n K dX12_undo_24 1 rfl ?_
    refine k_sipush (x := 152) K dX12_undo_25 (by decide) ?_
    refine k_icmp_ge (tgt := 66) K dX12_undo_28 (by decide) (fun q => ?_) (fun q => ?_)
    · have h := if_f q h
      exact k_sub [0] rfl (hk66  _ h)
    · have h := if_t q h
      refine k_aload_n K dX12_undo_31 0 rfl ?_
      refine k_get K 0 12 0 iX12_undo_X12 (Nat.le_of_ble_eq_true rfl) ((mM_0 cI cZ ad) _) rfl (by decide) fX12_undo_7 rfl dX12_undo_32 ?_
      refine k_iconst (x := 1) K dX12_undo_35 (by decide) ?_
      refine k_iload_n K dX12_undo_36 1 rfl ?_
      refine k_iadd K dX12_undo_37 ?_
      refine k_aload_n K dX12_undo_38 0 rfl ?_
      refine k_get K 0 12 0 iX12_undo_X12 (Nat.le_of_ble_eq_true rfl) ((mM_0 cI cZ ad) _) rfl (by decide) fX12_undo_7 rfl dX12_undo_39 ?_
      refine k_iconst (x := 1) K dX12_undo_42 (by decide) ?_
      refine k_sipush (x := 152) K dX12_undo_43 (by decide) ?_
      refine k_iconst (x := 1) K dX12_undo_46 (by decide) ?_
      refine k_aload_n K dX12_undo_47 0 rfl ?_
      refine k_get K 0 12 0 iX12_undo_X12 (Nat.le_of_ble_eq_true rfl) ((mM_0 cI cZ ad) _) rfl (by decide) fX12_undo_7 rfl dX12_undo_48 ?_
      refine k_iconst (x := 0) K dX12_undo_51 (by decide) ?_
      obtain ⟨g6, h⟩ := gd_some h
      refine k_ild K 1 0 (Nat.le_of_ble_eq_true rfl) ((mM_1 cI cZ ad) _) rfl g6 dX12_undo_52 ?_
      refine k_iadd K dX12_undo_53 ?_
      refine k_imul K dX12_undo_54 ?_
      refine k_iadd K dX12_undo_55 ?_
      refine k_iload_n K dX12_undo_56 1 rfl ?_
      refine k_iadd K dX12_undo_57 ?_
      have h := lt_some h
      obtain ⟨g8, h⟩ := gd_some h
      refine k_ild K 1 0 (Nat.le_of_ble_eq_true rfl) ((mM_1 cI cZ ad) _) rfl g8 dX12_undo_58 ?_
      obtain ⟨g9, h⟩ := gd_some h
      have h := lt_some h
      refine k_ist K 1 0 (Nat.le_of_ble_eq_true rfl) (mM_1 cI cZ ad) rfl g9 dX12_undo_59 ?_
      have h := lt_some h
      refine k_iinc (lv' := [(1, _), (0, _)]) K dX12_undo_60 1 rfl (v := _ + 1) (by rfl) (by rw [hn]; decide) rfl ?_
      refine k_goto (tgt := 24) K dX12_undo_63 (by decide) ?_
      exact k_sub [1, 0] rfl (ih _ _ h)
set_option maxRecDepth 100000 in
set_option maxHeartbeats 4000000 in
theorem ctX12_undo {l : Launch} {D : va_G} {cI cZ : ClassId} {ad : Nat → Nat} {σ : St} {res : (Int32 × St)} (h : mX12_undo σ = some res) : Ci l yX12_undo wsX12_undo 0 0 D vwCl (tysM cI cZ) nwM (mkM cI cZ ad) ad 17 [.ref (ad 0)] σ res := by
  refine c_int (cc := cX12_undo) (maxL := 2) (by decide) rfl (Nat.le_of_ble_eq_true rfl) fun a b hn K hR => ?_
  unfold mX12_undo at h
  have K : KS (GM l 0 0 D cI cZ ad a b (w_A ad 17)) cX12_undo RX12 wsX12_undo (some .int) := K
  have hn : x_n (GM l 0 0 D cI cZ ad a b (w_A ad 17)) = 2 := hn
  refine k_sub [0] rfl ?_
  refine k_aload_n K dX12_undo_0 0 rfl ?_
  refine k_get K 0 12 0 iX12_undo_X12 (Nat.le_of_ble_eq_true rfl) ((mM_0 cI cZ ad) _) rfl (by decide) fX12_undo_7 rfl dX12_undo_1 ?_
  refine k_iconst (x := 0) K dX12_undo_4 (by decide) ?_
  obtain ⟨g1, h⟩ := gd_some h
  refine k_ild K 1 0 (Nat.le_of_ble_eq_true rfl) ((mM_1 cI cZ ad) _) rfl g1 dX12_undo_5 ?_
  refine k_if_ne (tgt := 12) K dX12_undo_6 (by decide) (fun q => ?_) (fun q => ?_)
  · have h := if_f q h
    refine k_aload_n K dX12_undo_12 0 rfl ?_
    refine k_get K 0 12 0 iX12_undo_X12 (Nat.le_of_ble_eq_true rfl) ((mM_0 cI cZ ad) _) rfl (by decide) fX12_undo_7 rfl dX12_undo_13 ?_
    refine k_iconst (x := 0) K dX12_undo_16 (by decide) ?_
    refine k_dup2 K dX12_undo_17 rfl rfl ?_
    obtain ⟨g2, h⟩ := gd_some h
    refine k_ild K 1 0 (Nat.le_of_ble_eq_true rfl) ((mM_1 cI cZ ad) _) rfl g2 dX12_undo_18 ?_
    refine k_iconst (x := 1) K dX12_undo_19 (by decide) ?_
    refine k_isub K dX12_undo_20 ?_
    obtain ⟨g3, h⟩ := gd_some h
    have h := lt_some h
    refine k_ist K 1 0 (Nat.le_of_ble_eq_true rfl) (mM_1 cI cZ ad) rfl g3 dX12_undo_21 ?_
    refine k_iconst (x := 0) K dX12_undo_22 (by decide) ?_
    refine k_istore_n (lv' := [(1, _), (0, _)]) K dX12_undo_23 (by rw [hn]; decide) rfl ?_
    exact k_sub [1, 0] rfl (wX12_undo_24 K hn hR (fun  σ h => wX12_undo_66 K hn hR  σ h) FU _ _ h)
  · have h := if_t q h
    refine k_bipush (x := (-2)) K dX12_undo_9 (by decide) ?_
    exact ret_i hR h dX12_undo_11 trivial
-- X12_isSo (7, 164)
theorem iX12_isSo_X12 : ∀ w ∈ wsX120, w ∈ wsX12_isSo := fun _ h => List.mem_cons_of_mem _ (List.mem_append_right _ h)
theorem fX12_isSo_38 : Cond.fieldLink RX12 38 "SlopeCoinsModel" "seen" "[I" ∈ wsX12_isSo := by decide +kernel
theorem fX12_isSo_157 : Cond.fieldLink RX12 157 "SlopeCoinsModel" "seenMany" "I" ∈ wsX12_isSo := by decide +kernel
set_option maxRecDepth 100000 in
set_option maxHeartbeats 4000000 in
theorem wX12_isSo_56 {l : Launch} {D : va_G} {cI cZ : ClassId} {ad : Nat → Nat} {a : Program × Env × State × MethodId} {b : Array Value × List Frame × Method × Code × (State → Prop) × Nat} {A : Nat → Prop} {rc : Int32 → Int32 → St → Option (Int32 × St)} (K : KS (GM l 7 164 D cI cZ ad a b A) cX12_isSo RX12 wsX12_isSo (some .boolean)) (hn : x_n (GM l 7 164 D cI cZ ad a b A) = 3) {res : (Int32 × St)} (hR : HRi (GM l 7 164 D cI cZ ad a b A) cX12_isSo zb res) (hrc : ∀ (v1 : Int32) (v2 : Int32) (σ : St), rc v1 v2 σ = some res → Wk (GM l 7 164 D cI cZ ad a b A) 4 [(0, .ref (ad 0)), (1, .int v1), (2, .int v2)] [] σ) : ∀ (v2 : Int32), ∀ (t0 : Int32), ∀ (σ : St), mX12_isSo_56 rc v2 t0 σ = some res → Wk (GM l 7 164 D cI cZ ad a b A) 56 [(0, .ref (ad 0)), (2, .int v2)] [.int t0] σ := by
  intro v2 t0 σ h
  unfold mX12_isSo_56 at h
  refine k_istore_n (lv' := [(1, _), (0, _), (2, _)]) K dX12_isSo_56 (by rw [hn]; decide) rfl ?_
  have h := lt_some h
  refine k_iinc (lv' := [(2, _), (1, _), (0, _)]) K dX12_isSo_57 2 rfl (v := _ + 1) (by rfl) (by rw [hn]; decide) rfl ?_
  refine k_goto (tgt := 4) K dX12_isSo_60 (by decide) ?_
  exact k_sub [2, 1, 0] rfl (hrc _ _ _ h)
set_option maxRecDepth 100000 in
set_option maxHeartbeats 4000000 in
theorem wX12_isSo_4 {l : Launch} {D : va_G} {cI cZ : ClassId} {ad : Nat → Nat} {a : Program × Env × State × MethodId} {b : Array Value × List Frame × Method × Code × (State → Prop) × Nat} {A : Nat → Prop} (K : KS (GM l 7 164 D cI cZ ad a b A) cX12_isSo RX12 wsX12_isSo (some .boolean)) (hn : x_n (GM l 7 164 D cI cZ ad a b A) = 3) {res : (Int32 × St)} (hR : HRi (GM l 7 164 D cI cZ ad a b A) cX12_isSo zb res) : ∀ (n : Nat) (v1 : Int32) (v2 : Int32) (σ : St), mX12_isSo_4 n v1 v2 σ = some res → Wk (GM l 7 164 D cI cZ ad a b A) 4 [(0, .ref (ad 0)), (1, .int v1), (2, .int v2)] [] σ := by
  intro n
  induction n with
  | zero => intro v1 v2 σ h; cases h
  | succ n ih =>
    intro v1 v2 σ h
    unfold mX12_isSo_4 at h
    refine k_iload_n K dX12_isSo_4 1 rfl ?_
    refine k_if_eq (tgt := 63) K dX12_isSo_5 (by decide) (fun q => ?_) (fun q => ?_)
    · have h := if_t q h
      refine k_iload_n K dX12_isSo_63 1 rfl ?_
      obtain ⟨g1, h⟩ := gd_some h
      exact ret_i hR h dX12_isSo_64 g1
    · have h := if_f q h
      refine k_iload_n K dX12_isSo_8 2 rfl ?_
      refine k_aload_n K dX12_isSo_9 0 rfl ?_
      refine k_get K 0 12 15 iX12_isSo_X12 (Nat.le_of_ble_eq_true rfl) ((mM_0 cI cZ ad) _) rfl (by decide) fX12_isSo_157 rfl dX12_isSo_10 ?_
      refine k_icmp_ge (tgt := 63) K dX12_isSo_13 (by decide) (fun q => ?_) (fun q => ?_)
      · have h := if_f q h
        refine k_iload_n K dX12_isSo_63 1 rfl ?_
        obtain ⟨g2, h⟩ := gd_some h
        exact ret_i hR h dX12_isSo_64 g2
      · have h := if_t q h
        refine k_aload_n K dX12_isSo_16 0 rfl ?_
        refine k_aload_n K dX12_isSo_17 0 rfl ?_
        refine k_get K 0 12 14 iX12_isSo_X12 (Nat.le_of_ble_eq_true rfl) ((mM_0 cI cZ ad) _) rfl (by decide) fX12_isSo_38 rfl dX12_isSo_18 ?_
        refine k_iconst (x := 3) K dX12_isSo_21 (by decide) ?_
        refine k_iload_n K dX12_isSo_22 2 rfl ?_
        refine k_imul K dX12_isSo_23 ?_
        obtain ⟨g3, h⟩ := gd_some h
        refine k_ild K 10 0 (Nat.le_of_ble_eq_true rfl) ((mM_10 cI cZ ad) _) rfl g3 dX12_isSo_24 ?_
        refine k_aload_n K dX12_isSo_25 0 rfl ?_
        refine k_get K 0 12 14 iX12_isSo_X12 (Nat.le_of_ble_eq_true rfl) ((mM_0 cI cZ ad) _) rfl (by decide) fX12_isSo_38 rfl dX12_isSo_26 ?_
        refine k_iconst (x := 3) K dX12_isSo_29 (by decide) ?_
        refine k_iload_n K dX12_isSo_30 2 rfl ?_
        refine k_imul K dX12_isSo_31 ?_
        refine k_iconst (x := 1) K dX12_isSo_32 (by decide) ?_
        refine k_iadd K dX12_isSo_33 ?_
        obtain ⟨g4, h⟩ := gd_some h
        refine k_ild K 10 0 (Nat.le_of_ble_eq_true rfl) ((mM_10 cI cZ ad) _) rfl g4 dX12_isSo_34 ?_
        obtain ⟨⟨r5, s6⟩, e7, h⟩ := bd_some h
        dsimp only at h
        refine k_callVi K 0 12 (Nat.le_of_ble_eq_true rfl) ((mM_0 cI cZ ad) _) rfl (ctX12_endOf e7) (cwV 2 K.ts gX12_isSo_X12_endOf rfl rfl rfl hVX12_endOf ⟨Nat.le_of_ble_eq_true rfl, Nat.le_of_ble_eq_true rfl⟩) rfl rfl (Nat.le_of_ble_eq_true rfl) dX12_isSo_35 ?_
        refine k_aload_n K dX12_isSo_38 0 rfl ?_
        refine k_get K 0 12 14 iX12_isSo_X12 (Nat.le_of_ble_eq_true rfl) ((mM_0 cI cZ ad) _) rfl (by decide) fX12_isSo_38 rfl dX12_isSo_39 ?_
        refine k_iconst (x := 3) K dX12_isSo_42 (by decide) ?_
        refine k_iload_n K dX12_isSo_43 2 rfl ?_
        refine k_imul K dX12_isSo_44 ?_
        refine k_iconst (x := 2) K dX12_isSo_45 (by decide) ?_
        refine k_iadd K dX12_isSo_46 ?_
        obtain ⟨g8, h⟩ := gd_some h
        refine k_ild K 10 0 (Nat.le_of_ble_eq_true rfl) ((mM_10 cI cZ ad) _) rfl g8 dX12_isSo_47 ?_
        refine k_icmp_ne (tgt := 55) K dX12_isSo_48 (by decide) (fun q => ?_) (fun q => ?_)
        · have h := if_f q h
          refine k_iconst (x := 0) K dX12_isSo_55 (by decide) ?_
          exact k_sub [0, 2] rfl (wX12_isSo_56 K hn hR ih _ _ _ h)
        · have h := if_t q h
          refine k_iconst (x := 1) K dX12_isSo_51 (by decide) ?_
          refine k_goto (tgt := 56) K dX12_isSo_52 (by decide) ?_
          exact k_sub [0, 2] rfl (wX12_isSo_56 K hn hR ih _ _ _ h)
set_option maxRecDepth 100000 in
set_option maxHeartbeats 4000000 in
theorem ctX12_isSo {l : Launch} {D : va_G} {cI cZ : ClassId} {ad : Nat → Nat} {σ : St} {res : (Int32 × St)} (h : mX12_isSo σ = some res) : Ci l yX12_isSo wsX12_isSo 7 164 D vwCl (tysM cI cZ) nwM (mkM cI cZ ad) ad 17 [.ref (ad 0)] σ res := by
  refine c_bool (cc := cX12_isSo) (maxL := 3) (by decide) rfl (Nat.le_of_ble_eq_true rfl) fun a b hn K hR => ?_
  unfold mX12_isSo at h
  have K : KS (GM l 7 164 D cI cZ ad a b (w_A ad 17)) cX12_isSo RX12 wsX12_isSo (some .boolean) := K
  have hn : x_n (GM l 7 164 D cI cZ ad a b (w_A ad 17)) = 3 := hn
  refine k_sub [0] rfl ?_
  refine k_iconst (x := 1) K dX12_isSo_0 (by decide) ?_
  refine k_istore_n (lv' := [(1, _), (0, _)]) K dX12_isSo_1 (by rw [hn]; decide) rfl ?_
  refine k_iconst (x := 0) K dX12_isSo_2 (by decide) ?_
  refine k_istore_n (lv' := [(2, _), (1, _), (0, _)]) K dX12_isSo_3 (by rw [hn]; decide) rfl ?_
  exact k_sub [2, 1, 0] rfl (wX12_isSo_4 K hn hR FU _ _ _ h)
-- X12_now (8, 186)
set_option maxRecDepth 100000 in
set_option maxHeartbeats 4000000 in
theorem ctX12_now {l : Launch} {D : va_G} {cI cZ : ClassId} {ad : Nat → Nat} {v1 : Int32} {σ : St} {res : (Int32 × St)} (h : mX12_now v1 σ = some res) : Ci l yX12_now wsX12_now 8 186 D vwCl (tysM cI cZ) nwM (mkM cI cZ ad) ad 17 [.ref (ad 0), .int v1] σ res := by
  refine c_int (cc := cX12_now) (maxL := 2) (by decide) rfl (Nat.le_of_ble_eq_true rfl) fun a b hn K hR => ?_
  unfold mX12_now at h
  have K : KS (GM l 8 186 D cI cZ ad a b (w_A ad 17)) cX12_now RX12 wsX12_now (some .int) := K
  have hn : x_n (GM l 8 186 D cI cZ ad a b (w_A ad 17)) = 2 := hn
  refine k_sub [0, 1] rfl ?_
  refine k_iload_n K dX12_now_0 1 rfl ?_
  refine k_case (y := 0) (fun q0 => ?_) (fun q0 => ?_)
  · have h := if_t q0 h
    refine k_tableIn (off := 43) (tgt := 44) K dX12_now_1 (by rw [q0]; decide) (by rw [q0]; decide) (by rw [q0]; rfl) (by decide) ?_
    refine k_aload_n K dX12_now_44 0 rfl ?_
    obtain ⟨⟨r1, s2⟩, e3, h⟩ := bd_some h
    dsimp only at h
    refine k_callVi K 0 12 (Nat.le_of_ble_eq_true rfl) ((mM_0 cI cZ ad) _) rfl (ctX12_lying e3) (cwV 0 K.ts gX12_now_X12_lying rfl rfl rfl hVX12_lying ⟨Nat.le_of_ble_eq_true rfl, Nat.le_of_ble_eq_true rfl⟩) rfl rfl (Nat.le_of_ble_eq_true rfl) dX12_now_45 ?_
    refine k_aload_n K dX12_now_48 0 rfl ?_
    refine k_bipush (x := 91) K dX12_now_49 (by decide) ?_
    obtain ⟨⟨r4, s5⟩, e6, h⟩ := bd_some h
    dsimp only at h
    refine k_callVi K 0 12 (Nat.le_of_ble_eq_true rfl) ((mM_0 cI cZ ad) _) rfl (ctX12_sumFrom e6) (cwV 1 K.ts gX12_now_X12_sumFrom rfl rfl rfl hVX12_sumFrom ⟨Nat.le_of_ble_eq_true rfl, Nat.le_of_ble_eq_true rfl⟩) rfl rfl (Nat.le_of_ble_eq_true rfl) dX12_now_51 ?_
    refine k_iadd K dX12_now_54 ?_
    exact ret_i hR h dX12_now_55 trivial
  · have h := if_f q0 h
    refine k_case (y := 1) (fun q1 => ?_) (fun q1 => ?_)
    · have h := if_t q1 h
      refine k_tableIn (off := 55) (tgt := 56) K dX12_now_1 (by rw [q1]; decide) (by rw [q1]; decide) (by rw [q1]; rfl) (by decide) ?_
      refine k_aload_n K dX12_now_56 0 rfl ?_
      obtain ⟨⟨r7, s8⟩, e9, h⟩ := bd_some h
      dsimp only at h
      refine k_callVi K 0 12 (Nat.le_of_ble_eq_true rfl) ((mM_0 cI cZ ad) _) rfl (ctX12_lying e9) (cwV 0 K.ts gX12_now_X12_lying rfl rfl rfl hVX12_lying ⟨Nat.le_of_ble_eq_true rfl, Nat.le_of_ble_eq_true rfl⟩) rfl rfl (Nat.le_of_ble_eq_true rfl) dX12_now_57 ?_
      exact ret_i hR h dX12_now_60 trivial
    · have h := if_f q1 h
      refine k_case (y := 2) (fun q2 => ?_) (fun q2 => ?_)
      · have h := if_t q2 h
        refine k_tableIn (off := 60) (tgt := 61) K dX12_now_1 (by rw [q2]; decide) (by rw [q2]; decide) (by rw [q2]; rfl) (by decide) ?_
        refine k_aload_n K dX12_now_61 0 rfl ?_
        refine k_bipush (x := 61) K dX12_now_62 (by decide) ?_
        obtain ⟨⟨r10, s11⟩, e12, h⟩ := bd_some h
        dsimp only at h
        refine k_callVi K 0 12 (Nat.le_of_ble_eq_true rfl) ((mM_0 cI cZ ad) _) rfl (ctX12_sumFrom e12) (cwV 1 K.ts gX12_now_X12_sumFrom rfl rfl rfl hVX12_sumFrom ⟨Nat.le_of_ble_eq_true rfl, Nat.le_of_ble_eq_true rfl⟩) rfl rfl (Nat.le_of_ble_eq_true rfl) dX12_now_64 ?_
        exact ret_i hR h dX12_now_67 trivial
      · have h := if_f q2 h
        refine k_case (y := 3) (fun q3 => ?_) (fun q3 => ?_)
        · have h := if_t q3 h
          refine k_tableIn (off := 67) (tgt := 68) K dX12_now_1 (by rw [q3]; decide) (by rw [q3]; decide) (by rw [q3]; rfl) (by decide) ?_
          refine k_aload_n K dX12_now_68 0 rfl ?_
          refine k_bipush (x := 91) K dX12_now_69 (by decide) ?_
          obtain ⟨⟨r13, s14⟩, e15, h⟩ := bd_some h
          dsimp only at h
          refine k_callVi K 0 12 (Nat.le_of_ble_eq_true rfl) ((mM_0 cI cZ ad) _) rfl (ctX12_sumFrom e15) (cwV 1 K.ts gX12_now_X12_sumFrom rfl rfl rfl hVX12_sumFrom ⟨Nat.le_of_ble_eq_true rfl, Nat.le_of_ble_eq_true rfl⟩) rfl rfl (Nat.le_of_ble_eq_true rfl) dX12_now_71 ?_
          exact ret_i hR h dX12_now_74 trivial
        · have h := if_f q3 h
          refine k_case (y := 4) (fun q4 => ?_) (fun q4 => ?_)
          · have h := if_t q4 h
            refine k_tableIn (off := 74) (tgt := 75) K dX12_now_1 (by rw [q4]; decide) (by rw [q4]; decide) (by rw [q4]; rfl) (by decide) ?_
            refine k_aload_n K dX12_now_75 0 rfl ?_
            refine k_bipush (x := 121) K dX12_now_76 (by decide) ?_
            obtain ⟨⟨r16, s17⟩, e18, h⟩ := bd_some h
            dsimp only at h
            refine k_callVi K 0 12 (Nat.le_of_ble_eq_true rfl) ((mM_0 cI cZ ad) _) rfl (ctX12_sumFrom e18) (cwV 1 K.ts gX12_now_X12_sumFrom rfl rfl rfl hVX12_sumFrom ⟨Nat.le_of_ble_eq_true rfl, Nat.le_of_ble_eq_true rfl⟩) rfl rfl (Nat.le_of_ble_eq_true rfl) dX12_now_78 ?_
            exact ret_i hR h dX12_now_81 trivial
          · have h := if_f q4 h
            refine k_case (y := 5) (fun q5 => ?_) (fun q5 => ?_)
            · have h := if_t q5 h
              refine k_tableIn (off := 81) (tgt := 82) K dX12_now_1 (by rw [q5]; decide) (by rw [q5]; decide) (by rw [q5]; rfl) (by decide) ?_
              refine k_aload_n K dX12_now_82 0 rfl ?_
              obtain ⟨⟨r19, s20⟩, e21, h⟩ := bd_some h
              dsimp only at h
              refine k_callVi K 0 12 (Nat.le_of_ble_eq_true rfl) ((mM_0 cI cZ ad) _) rfl (ctX12_planksNow e21) (cwV 0 K.ts gX12_now_X12_planksNow rfl rfl rfl hVX12_planksNow ⟨Nat.le_of_ble_eq_true rfl, Nat.le_of_ble_eq_true rfl⟩) rfl rfl (Nat.le_of_ble_eq_true rfl) dX12_now_83 ?_
              exact ret_i hR h dX12_now_86 trivial
            · have h := if_f q5 h
              refine k_case (y := 6) (fun q6 => ?_) (fun q6 => ?_)
              · have h := if_t q6 h
                refine k_tableIn (off := 86) (tgt := 87) K dX12_now_1 (by rw [q6]; decide) (by rw [q6]; decide) (by rw [q6]; rfl) (by decide) ?_
                refine k_aload_n K dX12_now_87 0 rfl ?_
                obtain ⟨⟨r22, s23⟩, e24, h⟩ := bd_some h
                dsimp only at h
                refine k_callVi K 0 12 (Nat.le_of_ble_eq_true rfl) ((mM_0 cI cZ ad) _) rfl (ctX12_isSo e24) (cwV 0 K.ts gX12_now_X12_isSo rfl rfl rfl hVX12_isSo ⟨Nat.le_of_ble_eq_true rfl, Nat.le_of_ble_eq_true rfl⟩) rfl rfl (Nat.le_of_ble_eq_true rfl) dX12_now_88 ?_
                refine k_if_eq (tgt := 98) K dX12_now_91 (by decide) (fun q => ?_) (fun q => ?_)
                · have h := if_t q h
                  refine k_iconst (x := 0) K dX12_now_98 (by decide) ?_
                  exact ret_i hR h dX12_now_99 trivial
                · have h := if_f q h
                  refine k_iconst (x := 1) K dX12_now_94 (by decide) ?_
                  refine k_goto (tgt := 99) K dX12_now_95 (by decide) ?_
                  exact ret_i hR h dX12_now_99 trivial
              · have h := if_f q6 h
                refine k_tableOut (tgt := 100) K dX12_now_1 (sw_out7 q0 q1 q2 q3 q4 q5 q6) (by decide) ?_
                refine k_iconst (x := (-1)) K dX12_now_100 (by decide) ?_
                exact ret_i hR h dX12_now_101 trivial
-- X12_end (6, 142)
theorem iX12_end_X12 : ∀ w ∈ wsX120, w ∈ wsX12_end := fun _ h => List.mem_cons_of_mem _ (List.mem_append_right _ h)
theorem fX12_end_190 : Cond.fieldLink RX12 190 "SlopeCoinsModel" "steps" "I" ∈ wsX12_end := by decide +kernel
theorem fX12_end_193 : Cond.fieldLink RX12 193 "SlopeCoinsModel" "past" "I" ∈ wsX12_end := by decide +kernel
set_option maxRecDepth 100000 in
set_option maxHeartbeats 4000000 in
theorem ctX12_end {l : Launch} {D : va_G} {cI cZ : ClassId} {ad : Nat → Nat} {v1 : Int32} {v2 : Int32} {v3 : Int32} {v4 : Int32} {σ : St} {res : (Int32 × St)} (h : mX12_end v1 v2 v3 v4 σ = some res) : Ci l yX12_end wsX12_end 6 142 D vwCl (tysM cI cZ) nwM (mkM cI cZ ad) ad 17 [.ref (ad 0), .int v1, .int v2, .int v3, .int v4] σ res := by
  refine c_int (cc := cX12_end) (maxL := 5) (by decide) rfl (Nat.le_of_ble_eq_true rfl) fun a b hn K hR => ?_
  unfold mX12_end at h
  have K : KS (GM l 6 142 D cI cZ ad a b (w_A ad 17)) cX12_end RX12 wsX12_end (some .int) := K
  have hn : x_n (GM l 6 142 D cI cZ ad a b (w_A ad 17)) = 5 := hn
  refine k_sub [0, 1, 2, 3, 4] rfl ?_
  refine k_aload_n K dX12_end_0 0 rfl ?_
  refine k_iload_n K dX12_end_1 1 rfl ?_
  obtain ⟨⟨r1, s2⟩, e3, h⟩ := bd_some h
  dsimp only at h
  refine k_callVi K 0 12 (Nat.le_of_ble_eq_true rfl) ((mM_0 cI cZ ad) _) rfl (ctX12_isKind e3) (cwV 1 K.ts gX12_end_X12_isKind rfl rfl rfl hVX12_isKind ⟨Nat.le_of_ble_eq_true rfl, Nat.le_of_ble_eq_true rfl⟩) rfl rfl (Nat.le_of_ble_eq_true rfl) dX12_end_2 ?_
  refine k_if_eq (tgt := 30) K dX12_end_5 (by decide) (fun q => ?_) (fun q => ?_)
  · have h := if_t q h
    refine k_iconst (x := (-1)) K dX12_end_30 (by decide) ?_
    exact ret_i hR h dX12_end_31 trivial
  · have h := if_f q h
    refine k_aload_n K dX12_end_8 0 rfl ?_
    refine k_iload_n K dX12_end_9 2 rfl ?_
    refine k_iload_n K dX12_end_10 3 rfl ?_
    obtain ⟨⟨r4, s5⟩, e6, h⟩ := bd_some h
    dsimp only at h
    refine k_callVi K 0 12 (Nat.le_of_ble_eq_true rfl) ((mM_0 cI cZ ad) _) rfl (ctX12_isCell e6) (cwV 2 K.ts gX12_end_X12_isCell rfl rfl rfl hVX12_isCell ⟨Nat.le_of_ble_eq_true rfl, Nat.le_of_ble_eq_true rfl⟩) rfl rfl (Nat.le_of_ble_eq_true rfl) dX12_end_11 ?_
    refine k_if_eq (tgt := 30) K dX12_end_14 (by decide) (fun q => ?_) (fun q => ?_)
    · have h := if_t q h
      refine k_iconst (x := (-1)) K dX12_end_30 (by decide) ?_
      exact ret_i hR h dX12_end_31 trivial
    · have h := if_f q h
      refine k_iload K dX12_end_17 4 rfl ?_
      refine k_i2l K dX12_end_19 ?_
      refine k_lconst (v := 0) K dX12_end_20 (by decide) ?_
      refine k_ldc2 (v := 2) K (by decide +kernel) dX12_end_21 ?_
      obtain ⟨⟨r7, s8⟩, e9, h⟩ := bd_some h
      dsimp only at h
      refine k_callSi K (ctX12_in e9) (va_cwS 3 K.ts gX12_end_X12_in rfl rfl rfl hSX12_in ⟨Nat.le_of_ble_eq_true rfl, Nat.le_of_ble_eq_true rfl⟩) rfl rfl (Nat.le_of_ble_eq_true rfl) dX12_end_24 ?_
      refine k_if_ne (tgt := 32) K dX12_end_27 (by decide) (fun q => ?_) (fun q => ?_)
      · have h := if_f q h
        refine k_aload_n K dX12_end_32 0 rfl ?_
        refine k_iload_n K dX12_end_33 1 rfl ?_
        refine k_aload_n K dX12_end_34 0 rfl ?_
        refine k_iload_n K dX12_end_35 2 rfl ?_
        refine k_iload_n K dX12_end_36 3 rfl ?_
        obtain ⟨⟨r10, s11⟩, e12, h⟩ := bd_some h
        dsimp only at h
        refine k_callVi K 0 12 (Nat.le_of_ble_eq_true rfl) ((mM_0 cI cZ ad) _) rfl (ctX12_bit e12) (cwV 2 K.ts gX12_end_X12_bit rfl rfl rfl hVX12_bit ⟨Nat.le_of_ble_eq_true rfl, Nat.le_of_ble_eq_true rfl⟩) rfl rfl (Nat.le_of_ble_eq_true rfl) dX12_end_37 ?_
        obtain ⟨⟨r13, s14⟩, e15, h⟩ := bd_some h
        dsimp only at h
        refine k_callVv K 0 12 (Nat.le_of_ble_eq_true rfl) ((mM_0 cI cZ ad) _) rfl (ctX12_rollKind e15) (cwV 2 K.ts gX12_end_X12_rollKind rfl rfl rfl hVX12_rollKind ⟨Nat.le_of_ble_eq_true rfl, Nat.le_of_ble_eq_true rfl⟩) rfl rfl (Nat.le_of_ble_eq_true rfl) dX12_end_40 ?_
        refine k_iload K dX12_end_43 4 rfl ?_
        refine k_if_ne (tgt := 55) K dX12_end_45 (by decide) (fun q => ?_) (fun q => ?_)
        · have h := if_f q h
          refine k_iload K dX12_end_55 4 rfl ?_
          refine k_iconst (x := 1) K dX12_end_57 (by decide) ?_
          refine k_icmp_ne (tgt := 68) K dX12_end_58 (by decide) (fun q => ?_) (fun q => ?_)
          · have h := if_f q h
            refine k_aload_n K dX12_end_68 0 rfl ?_
            refine k_get K 0 12 34 iX12_end_X12 (Nat.le_of_ble_eq_true rfl) ((mM_0 cI cZ ad) _) rfl (by decide) fX12_end_193 rfl dX12_end_69 ?_
            exact ret_i hR h dX12_end_72 trivial
          · have h := if_t q h
            refine k_aload_n K dX12_end_61 0 rfl ?_
            refine k_get K 0 12 33 iX12_end_X12 (Nat.le_of_ble_eq_true rfl) ((mM_0 cI cZ ad) _) rfl (by decide) fX12_end_190 rfl dX12_end_62 ?_
            refine k_goto (tgt := 72) K dX12_end_65 (by decide) ?_
            exact ret_i hR h dX12_end_72 trivial
        · have h := if_t q h
          refine k_aload_n K dX12_end_48 0 rfl ?_
          obtain ⟨⟨r16, s17⟩, e18, h⟩ := bd_some h
          dsimp only at h
          refine k_callVi K 0 12 (Nat.le_of_ble_eq_true rfl) ((mM_0 cI cZ ad) _) rfl (ctX12_toldEnd e18) (cwV 0 K.ts gX12_end_X12_toldEnd rfl rfl rfl hVX12_toldEnd ⟨Nat.le_of_ble_eq_true rfl, Nat.le_of_ble_eq_true rfl⟩) rfl rfl (Nat.le_of_ble_eq_true rfl) dX12_end_49 ?_
          refine k_goto (tgt := 72) K dX12_end_52 (by decide) ?_
          exact ret_i hR h dX12_end_72 trivial
      · have h := if_t q h
        refine k_iconst (x := (-1)) K dX12_end_30 (by decide) ?_
        exact ret_i hR h dX12_end_31 trivial
-- X12_doorsOf (7, 164)
set_option maxRecDepth 100000 in
set_option maxHeartbeats 4000000 in
theorem wX12_doorsOf_34 {l : Launch} {D : va_G} {cI cZ : ClassId} {ad : Nat → Nat} {a : Program × Env × State × MethodId} {b : Array Value × List Frame × Method × Code × (State → Prop) × Nat} {A : Nat → Prop} {rc : Int32 → Int32 → Int32 → Int32 → St → Option (Int32 × St)} (K : KS (GM l 7 164 D cI cZ ad a b A) cX12_doorsOf RX12 wsX12_doorsOf (some .int)) (hn : x_n (GM l 7 164 D cI cZ ad a b A) = 5) {res : (Int32 × St)} (hR : HRi (GM l 7 164 D cI cZ ad a b A) cX12_doorsOf tb res) (hrc : ∀ (v1 : Int32) (v2 : Int32) (v3 : Int32) (v4 : Int32) (σ : St), rc v1 v2 v3 v4 σ = some res → Wk (GM l 7 164 D cI cZ ad a b A) 5 [(0, .ref (ad 0)), (1, .int v1), (2, .int v2), (3, .int v3), (4, .int v4)] [] σ) : ∀ (v1 : Int32), ∀ (v2 : Int32), ∀ (v4 : Int32), ∀ (t0 : Int32), ∀ (t1 : Int32), ∀ (σ : St), mX12_doorsOf_34 rc v1 v2 v4 t0 t1 σ = some res → Wk (GM l 7 164 D cI cZ ad a b A) 34 [(0, .ref (ad 0)), (1, .int v1), (2, .int v2), (4, .int v4)] [.int t0, .int t1] σ := by
  intro v1 v2 v4 t0 t1 σ h
  unfold mX12_doorsOf_34 at h
  refine k_ior K dX12_doorsOf_34 ?_
  have h := lt_some h
  refine k_istore_n (lv' := [(3, _), (0, _), (1, _), (2, _), (4, _)]) K dX12_doorsOf_35 (by rw [hn]; decide) rfl ?_
  have h := lt_some h
  refine k_iinc (lv' := [(4, _), (3, _), (0, _), (1, _), (2, _)]) K dX12_doorsOf_36 4 rfl (v := _ + 1) (by rfl) (by rw [hn]; decide) rfl ?_
  refine k_goto (tgt := 5) K dX12_doorsOf_39 (by decide) ?_
  exact k_sub [2, 3, 4, 1, 0] rfl (hrc _ _ _ _ _ h)
set_option maxRecDepth 100000 in
set_option maxHeartbeats 4000000 in
theorem wX12_doorsOf_5 {l : Launch} {D : va_G} {cI cZ : ClassId} {ad : Nat → Nat} {a : Program × Env × State × MethodId} {b : Array Value × List Frame × Method × Code × (State → Prop) × Nat} {A : Nat → Prop} (K : KS (GM l 7 164 D cI cZ ad a b A) cX12_doorsOf RX12 wsX12_doorsOf (some .int)) (hn : x_n (GM l 7 164 D cI cZ ad a b A) = 5) {res : (Int32 × St)} (hR : HRi (GM l 7 164 D cI cZ ad a b A) cX12_doorsOf tb res) : ∀ (n : Nat) (v1 : Int32) (v2 : Int32) (v3 : Int32) (v4 : Int32) (σ : St), mX12_doorsOf_5 n v1 v2 v3 v4 σ = some res → Wk (GM l 7 164 D cI cZ ad a b A) 5 [(0, .ref (ad 0)), (1, .int v1), (2, .int v2), (3, .int v3), (4, .int v4)] [] σ := by
  intro n
  induction n with
  | zero => intro v1 v2 v3 v4 σ h; cases h
  | succ n ih =>
    intro v1 v2 v3 v4 σ h
    unfold mX12_doorsOf_5 at h
    refine k_iload K dX12_doorsOf_5 4 rfl ?_
    refine k_aload_n K dX12_doorsOf_7 0 rfl ?_
    obtain ⟨⟨r1, s2⟩, e3, h⟩ := bd_some h
    dsimp only at h
    refine k_callVi K 0 12 (Nat.le_of_ble_eq_true rfl) ((mM_0 cI cZ ad) _) rfl (ctX12_cells e3) (cwV 0 K.ts gX12_doorsOf_X12_cells rfl rfl rfl hVX12_cells ⟨Nat.le_of_ble_eq_true rfl, Nat.le_of_ble_eq_true rfl⟩) rfl rfl (Nat.le_of_ble_eq_true rfl) dX12_doorsOf_8 ?_
    refine k_icmp_ge (tgt := 42) K dX12_doorsOf_11 (by decide) (fun q => ?_) (fun q => ?_)
    · have h := if_f q h
      refine k_iload_n K dX12_doorsOf_42 3 rfl ?_
      exact ret_i hR h dX12_doorsOf_43 trivial
    · have h := if_t q h
      refine k_iload_n K dX12_doorsOf_14 3 rfl ?_
      refine k_aload_n K dX12_doorsOf_15 0 rfl ?_
      refine k_iload_n K dX12_doorsOf_16 1 rfl ?_
      refine k_iload K dX12_doorsOf_17 4 rfl ?_
      obtain ⟨⟨r4, s5⟩, e6, h⟩ := bd_some h
      dsimp only at h
      refine k_callVi K 0 12 (Nat.le_of_ble_eq_true rfl) ((mM_0 cI cZ ad) _) rfl (ctX12_endOf e6) (cwV 2 K.ts gX12_doorsOf_X12_endOf rfl rfl rfl hVX12_endOf ⟨Nat.le_of_ble_eq_true rfl, Nat.le_of_ble_eq_true rfl⟩) rfl rfl (Nat.le_of_ble_eq_true rfl) dX12_doorsOf_19 ?_
      refine k_iload_n K dX12_doorsOf_22 2 rfl ?_
      refine k_icmp_ne (tgt := 33) K dX12_doorsOf_23 (by decide) (fun q => ?_) (fun q => ?_)
      · have h := if_f q h
        refine k_iconst (x := 0) K dX12_doorsOf_33 (by decide) ?_
        exact k_sub [0, 1, 2, 4] rfl (wX12_doorsOf_34 K hn hR ih _ _ _ _ _ _ h)
      · have h := if_t q h
        refine k_iconst (x := 1) K dX12_doorsOf_26 (by decide) ?_
        refine k_iload K dX12_doorsOf_27 4 rfl ?_
        refine k_ishl K dX12_doorsOf_29 ?_
        refine k_goto (tgt := 34) K dX12_doorsOf_30 (by decide) ?_
        exact k_sub [0, 1, 2, 4] rfl (wX12_doorsOf_34 K hn hR ih _ _ _ _ _ _ h)
set_option maxRecDepth 100000 in
set_option maxHeartbeats 4000000 in
theorem ctX12_doorsOf {l : Launch} {D : va_G} {cI cZ : ClassId} {ad : Nat → Nat} {v1 : Int32} {v2 : Int32} {σ : St} {res : (Int32 × St)} (h : mX12_doorsOf v1 v2 σ = some res) : Ci l yX12_doorsOf wsX12_doorsOf 7 164 D vwCl (tysM cI cZ) nwM (mkM cI cZ ad) ad 17 [.ref (ad 0), .int v1, .int v2] σ res := by
  refine c_int (cc := cX12_doorsOf) (maxL := 5) (by decide) rfl (Nat.le_of_ble_eq_true rfl) fun a b hn K hR => ?_
  unfold mX12_doorsOf at h
  have K : KS (GM l 7 164 D cI cZ ad a b (w_A ad 17)) cX12_doorsOf RX12 wsX12_doorsOf (some .int) := K
  have hn : x_n (GM l 7 164 D cI cZ ad a b (w_A ad 17)) = 5 := hn
  refine k_sub [0, 1, 2] rfl ?_
  refine k_iconst (x := 0) K dX12_doorsOf_0 (by decide) ?_
  refine k_istore_n (lv' := [(3, _), (0, _), (1, _), (2, _)]) K dX12_doorsOf_1 (by rw [hn]; decide) rfl ?_
  refine k_iconst (x := 0) K dX12_doorsOf_2 (by decide) ?_
  refine k_istore (lv' := [(4, _), (3, _), (0, _), (1, _), (2, _)]) K dX12_doorsOf_3 (by rw [hn]; decide) rfl ?_
  exact k_sub [2, 3, 4, 1, 0] rfl (wX12_doorsOf_5 K hn hR FU _ _ _ _ _ h)
-- X12_doors (8, 188)
set_option maxRecDepth 100000 in
set_option maxHeartbeats 4000000 in
theorem ctX12_doors {l : Launch} {D : va_G} {cI cZ : ClassId} {ad : Nat → Nat} {v1 : Int32} {v2 : Int32} {v3 : Int32} {σ : St} {res : (Int32 × St)} (h : mX12_doors v1 v2 v3 σ = some res) : Ci l yX12_doors wsX12_doors 8 188 D vwCl (tysM cI cZ) nwM (mkM cI cZ ad) ad 17 [.ref (ad 0), .int v1, .int v2, .int v3] σ res := by
  refine c_int (cc := cX12_doors) (maxL := 4) (by decide) rfl (Nat.le_of_ble_eq_true rfl) fun a b hn K hR => ?_
  unfold mX12_doors at h
  have K : KS (GM l 8 188 D cI cZ ad a b (w_A ad 17)) cX12_doors RX12 wsX12_doors (some .int) := K
  have hn : x_n (GM l 8 188 D cI cZ ad a b (w_A ad 17)) = 4 := hn
  refine k_sub [0, 1, 2, 3] rfl ?_
  refine k_aload_n K dX12_doors_0 0 rfl ?_
  refine k_iload_n K dX12_doors_1 1 rfl ?_
  obtain ⟨⟨r1, s2⟩, e3, h⟩ := bd_some h
  dsimp only at h
  refine k_callVi K 0 12 (Nat.le_of_ble_eq_true rfl) ((mM_0 cI cZ ad) _) rfl (ctX12_isKind e3) (cwV 1 K.ts gX12_doors_X12_isKind rfl rfl rfl hVX12_isKind ⟨Nat.le_of_ble_eq_true rfl, Nat.le_of_ble_eq_true rfl⟩) rfl rfl (Nat.le_of_ble_eq_true rfl) dX12_doors_2 ?_
  refine k_if_eq (tgt := 31) K dX12_doors_5 (by decide) (fun q => ?_) (fun q => ?_)
  · have h := if_t q h
    refine k_iconst (x := (-1)) K dX12_doors_31 (by decide) ?_
    exact ret_i hR h dX12_doors_32 trivial
  · have h := if_f q h
    refine k_aload_n K dX12_doors_8 0 rfl ?_
    refine k_iload_n K dX12_doors_9 2 rfl ?_
    refine k_iload_n K dX12_doors_10 3 rfl ?_
    obtain ⟨⟨r4, s5⟩, e6, h⟩ := bd_some h
    dsimp only at h
    refine k_callVi K 0 12 (Nat.le_of_ble_eq_true rfl) ((mM_0 cI cZ ad) _) rfl (ctX12_isCell e6) (cwV 2 K.ts gX12_doors_X12_isCell rfl rfl rfl hVX12_isCell ⟨Nat.le_of_ble_eq_true rfl, Nat.le_of_ble_eq_true rfl⟩) rfl rfl (Nat.le_of_ble_eq_true rfl) dX12_doors_11 ?_
    refine k_if_eq (tgt := 31) K dX12_doors_14 (by decide) (fun q => ?_) (fun q => ?_)
    · have h := if_t q h
      refine k_iconst (x := (-1)) K dX12_doors_31 (by decide) ?_
      exact ret_i hR h dX12_doors_32 trivial
    · have h := if_f q h
      refine k_aload_n K dX12_doors_17 0 rfl ?_
      refine k_iload_n K dX12_doors_18 1 rfl ?_
      refine k_aload_n K dX12_doors_19 0 rfl ?_
      refine k_iload_n K dX12_doors_20 2 rfl ?_
      refine k_iload_n K dX12_doors_21 3 rfl ?_
      obtain ⟨⟨r7, s8⟩, e9, h⟩ := bd_some h
      dsimp only at h
      refine k_callVi K 0 12 (Nat.le_of_ble_eq_true rfl) ((mM_0 cI cZ ad) _) rfl (ctX12_bit e9) (cwV 2 K.ts gX12_doors_X12_bit rfl rfl rfl hVX12_bit ⟨Nat.le_of_ble_eq_true rfl, Nat.le_of_ble_eq_true rfl⟩) rfl rfl (Nat.le_of_ble_eq_true rfl) dX12_doors_22 ?_
      obtain ⟨⟨r10, s11⟩, e12, h⟩ := bd_some h
      dsimp only at h
      refine k_callVi K 0 12 (Nat.le_of_ble_eq_true rfl) ((mM_0 cI cZ ad) _) rfl (ctX12_doorsOf e12) (cwV 2 K.ts gX12_doors_X12_doorsOf rfl rfl rfl hVX12_doorsOf ⟨Nat.le_of_ble_eq_true rfl, Nat.le_of_ble_eq_true rfl⟩) rfl rfl (Nat.le_of_ble_eq_true rfl) dX12_doors_25 ?_
      refine k_goto (tgt := 32) K dX12_doors_28 (by decide) ?_
      exact ret_i hR h dX12_doors_32 trivial
-- X12_isFree (2, 42)
set_option maxRecDepth 100000 in
set_option maxHeartbeats 4000000 in
theorem wX12_isFree_11 {l : Launch} {D : va_G} {cI cZ : ClassId} {ad : Nat → Nat} {a : Program × Env × State × MethodId} {b : Array Value × List Frame × Method × Code × (State → Prop) × Nat} {A : Nat → Prop} (K : KS (GM l 2 42 D cI cZ ad a b A) cX12_isFree RX12 wsX12_isFree (some .boolean)) (hn : x_n (GM l 2 42 D cI cZ ad a b A) = 3) {res : (Int32 × St)} (hR : HRi (GM l 2 42 D cI cZ ad a b A) cX12_isFree zb res) : ∀ (v1 : Int32), ∀ (t0 : Int32), ∀ (σ : St), mX12_isFree_11 v1 t0 σ = some res → Wk (GM l 2 42 D cI cZ ad a b A) 11 [(0, .ref (ad 0)), (1, .int v1)] [.int t0] σ := by
  intro v1 t0 σ h
  unfold mX12_isFree_11 at h
  refine k_istore_n (lv' := [(2, _), (0, _), (1, _)]) K dX12_isFree_11 (by rw [hn]; decide) rfl ?_
  refine k_aload_n K dX12_isFree_12 1 rfl ?_
  refine k_iload_n K dX12_isFree_13 2 rfl ?_
  refine k_iconst (x := 2) K dX12_isFree_14 (by decide) ?_
  refine k_idiv K dX12_isFree_15 (by decide) ?_
  refine k_iload_n K dX12_isFree_16 0 rfl ?_
  obtain ⟨⟨r1, s2⟩, e3, h⟩ := bd_some h
  dsimp only at h
  refine k_callVi K 0 12 (Nat.le_of_ble_eq_true rfl) ((mM_0 cI cZ ad) _) rfl (ctX12_isEdge e3) (cwV 2 K.ts gX12_isFree_X12_isEdge rfl rfl rfl hVX12_isEdge ⟨Nat.le_of_ble_eq_true rfl, Nat.le_of_ble_eq_true rfl⟩) rfl rfl (Nat.le_of_ble_eq_true rfl) dX12_isFree_17 ?_
  refine k_if_ne (tgt := 43) K dX12_isFree_20 (by decide) (fun q => ?_) (fun q => ?_)
  · have h := if_f q h
    refine k_iconst (x := 0) K dX12_isFree_43 (by decide) ?_
    exact ret_i hR h dX12_isFree_44 zb_0
  · have h := if_t q h
    refine k_aload_n K dX12_isFree_23 1 rfl ?_
    refine k_iload_n K dX12_isFree_24 2 rfl ?_
    obtain ⟨⟨r4, s5⟩, e6, h⟩ := bd_some h
    dsimp only at h
    refine k_callVi K 0 12 (Nat.le_of_ble_eq_true rfl) ((mM_0 cI cZ ad) _) rfl (ctX12_isKerb e6) (cwV 1 K.ts gX12_isFree_X12_isKerb rfl rfl rfl hVX12_isKerb ⟨Nat.le_of_ble_eq_true rfl, Nat.le_of_ble_eq_true rfl⟩) rfl rfl (Nat.le_of_ble_eq_true rfl) dX12_isFree_25 ?_
    refine k_if_ne (tgt := 43) K dX12_isFree_28 (by decide) (fun q => ?_) (fun q => ?_)
    · have h := if_f q h
      refine k_iconst (x := 0) K dX12_isFree_43 (by decide) ?_
      exact ret_i hR h dX12_isFree_44 zb_0
    · have h := if_t q h
      refine k_aload_n K dX12_isFree_31 1 rfl ?_
      refine k_iload_n K dX12_isFree_32 2 rfl ?_
      obtain ⟨⟨r7, s8⟩, e9, h⟩ := bd_some h
      dsimp only at h
      refine k_callVi K 0 12 (Nat.le_of_ble_eq_true rfl) ((mM_0 cI cZ ad) _) rfl (ctX12_isPlank e9) (cwV 1 K.ts gX12_isFree_X12_isPlank rfl rfl rfl hVX12_isPlank ⟨Nat.le_of_ble_eq_true rfl, Nat.le_of_ble_eq_true rfl⟩) rfl rfl (Nat.le_of_ble_eq_true rfl) dX12_isFree_33 ?_
      refine k_if_ne (tgt := 43) K dX12_isFree_36 (by decide) (fun q => ?_) (fun q => ?_)
      · have h := if_f q h
        refine k_iconst (x := 0) K dX12_isFree_43 (by decide) ?_
        exact ret_i hR h dX12_isFree_44 zb_0
      · have h := if_t q h
        refine k_iconst (x := 1) K dX12_isFree_39 (by decide) ?_
        refine k_goto (tgt := 44) K dX12_isFree_40 (by decide) ?_
        exact ret_i hR h dX12_isFree_44 zb_1
set_option maxRecDepth 100000 in
set_option maxHeartbeats 4000000 in
theorem ctX12_isFree {l : Launch} {D : va_G} {cI cZ : ClassId} {ad : Nat → Nat} {v1 : Int32} {σ : St} {res : (Int32 × St)} (h : mX12_isFree v1 σ = some res) : Ci l yX12_isFree wsX12_isFree 2 42 D vwCl (tysM cI cZ) nwM (mkM cI cZ ad) ad 17 [.ref (ad 0), .int v1] σ res := by
  refine c_bool (cc := cX12_isFree) (maxL := 3) (by decide) rfl (Nat.le_of_ble_eq_true rfl) fun a b hn K hR => ?_
  unfold mX12_isFree at h
  have K : KS (GM l 2 42 D cI cZ ad a b (w_A ad 17)) cX12_isFree RX12 wsX12_isFree (some .boolean) := K
  have hn : x_n (GM l 2 42 D cI cZ ad a b (w_A ad 17)) = 3 := hn
  refine k_sub [0, 1] rfl ?_
  refine k_iload_n K dX12_isFree_0 1 rfl ?_
  refine k_iconst (x := 2) K dX12_isFree_1 (by decide) ?_
  refine k_irem K dX12_isFree_2 (by decide) ?_
  refine k_if_ne (tgt := 10) K dX12_isFree_3 (by decide) (fun q => ?_) (fun q => ?_)
  · have h := if_f q h
    refine k_iconst (x := 2) K dX12_isFree_10 (by decide) ?_
    exact k_sub [0, 1] rfl (wX12_isFree_11 K hn hR _ _ _ h)
  · have h := if_t q h
    refine k_iconst (x := 1) K dX12_isFree_6 (by decide) ?_
    refine k_goto (tgt := 11) K dX12_isFree_7 (by decide) ?_
    exact k_sub [0, 1] rfl (wX12_isFree_11 K hn hR _ _ _ h)
-- X12_triesPlanks (7, 164)
theorem iX12_triesPlanks_X12 : ∀ w ∈ wsX120, w ∈ wsX12_triesPlanks := fun _ h => List.mem_cons_of_mem _ (List.mem_append_right _ h)
theorem fX12_triesPlanks_56 : Cond.fieldLink RX12 56 "SlopeCoinsModel" "triedOne" "I" ∈ wsX12_triesPlanks := by decide +kernel
theorem fX12_triesPlanks_60 : Cond.fieldLink RX12 60 "SlopeCoinsModel" "triedTwo" "I" ∈ wsX12_triesPlanks := by decide +kernel
set_option maxRecDepth 100000 in
set_option maxHeartbeats 4000000 in
theorem wX12_triesPlanks_123 {l : Launch} {D : va_G} {cI cZ : ClassId} {ad : Nat → Nat} {a : Program × Env × State × MethodId} {b : Array Value × List Frame × Method × Code × (State → Prop) × Nat} {A : Nat → Prop} {rc : Int32 → Int32 → Int32 → Int32 → Int32 → St → Option (Int32 × St)} (K : KS (GM l 7 164 D cI cZ ad a b A) cX12_triesPlanks RX12 wsX12_triesPlanks (some .boolean)) (hn : x_n (GM l 7 164 D cI cZ ad a b A) = 7) {res : (Int32 × St)} (hR : HRi (GM l 7 164 D cI cZ ad a b A) cX12_triesPlanks zb res) (hrc : ∀ (v1 : Int32) (v2 : Int32) (v3 : Int32) (v4 : Int32) (v5 : Int32) (σ : St), rc v1 v2 v3 v4 v5 σ = some res → Wk (GM l 7 164 D cI cZ ad a b A) 3 [(0, .ref (ad 0)), (1, .int v1), (2, .int v2), (3, .int v3), (4, .int v4), (5, .int v5)] [] σ) : ∀ (v1 : Int32), ∀ (v2 : Int32), ∀ (v3 : Int32), ∀ (v4 : Int32), ∀ (v5 : Int32), ∀ (σ : St), mX12_triesPlanks_123 rc v1 v2 v3 v4 v5 σ = some res → Wk (GM l 7 164 D cI cZ ad a b A) 123 [(0, .ref (ad 0)), (1, .int v1), (2, .int v2), (3, .int v3), (4, .int v4), (5, .int v5)] [] σ := by
  intro v1 v2 v3 v4 v5 σ h
  unfold mX12_triesPlanks_123 at h
  have h := lt_some h
  refine k_iinc (lv' := [(5, _), (0, _), (1, _), (2, _), (3, _), (4, _)]) K dX12_triesPlanks_123 5 rfl (v := _ + 1) (by rfl) (by rw [hn]; decide) rfl ?_
  refine k_goto (tgt := 3) K dX12_triesPlanks_126 (by decide) ?_
  exact k_sub [1, 2, 3, 4, 5, 0] rfl (hrc _ _ _ _ _ _ h)
set_option maxRecDepth 100000 in
set_option maxHeartbeats 4000000 in
theorem wX12_triesPlanks_117 {l : Launch} {D : va_G} {cI cZ : ClassId} {ad : Nat → Nat} {a : Program × Env × State × MethodId} {b : Array Value × List Frame × Method × Code × (State → Prop) × Nat} {A : Nat → Prop} {k123 : Int32 → Int32 → Int32 → Int32 → Int32 → St → Option (Int32 × St)} {rc : Int32 → Int32 → Int32 → Int32 → Int32 → Int32 → St → Option (Int32 × St)} (K : KS (GM l 7 164 D cI cZ ad a b A) cX12_triesPlanks RX12 wsX12_triesPlanks (some .boolean)) (hn : x_n (GM l 7 164 D cI cZ ad a b A) = 7) {res : (Int32 × St)} (hR : HRi (GM l 7 164 D cI cZ ad a b A) cX12_triesPlanks zb res) (hk123 : ∀ (v1 : Int32) (v2 : Int32) (v3 : Int32) (v4 : Int32) (v5 : Int32) (σ : St), k123 v1 v2 v3 v4 v5 σ = some res → Wk (GM l 7 164 D cI cZ ad a b A) 123 [(0, .ref (ad 0)), (1, .int v1), (2, .int v2), (3, .int v3), (4, .int v4), (5, .int v5)] [] σ) (hrc : ∀ (v1 : Int32) (v2 : Int32) (v3 : Int32) (v4 : Int32) (v5 : Int32) (v6 : Int32) (σ : St), rc v1 v2 v3 v4 v5 v6 σ = some res → Wk (GM l 7 164 D cI cZ ad a b A) 59 [(0, .ref (ad 0)), (1, .int v1), (2, .int v2), (3, .int v3), (4, .int v4), (5, .int v5), (6, .int v6)] [] σ) : ∀ (v1 : Int32), ∀ (v2 : Int32), ∀ (v3 : Int32), ∀ (v4 : Int32), ∀ (v5 : Int32), ∀ (v6 : Int32), ∀ (σ : St), mX12_triesPlanks_117 k123 rc v1 v2 v3 v4 v5 v6 σ = some res → Wk (GM l 7 164 D cI cZ ad a b A) 117 [(0, .ref (ad 0)), (1, .int v1), (2, .int v2), (3, .int v3), (4, .int v4), (5, .int v5), (6, .int v6)] [] σ := by
  intro v1 v2 v3 v4 v5 v6 σ h
  unfold mX12_triesPlanks_117 at h
  have h := lt_some h
  refine k_iinc (lv' := [(6, _), (0, _), (1, _), (2, _), (3, _), (4, _), (5, _)]) K dX12_triesPlanks_117 6 rfl (v := _ + 1) (by rfl) (by rw [hn]; decide) rfl ?_
  refine k_goto (tgt := 59) K dX12_triesPlanks_120 (by decide) ?_
  exact k_sub [1, 2, 3, 4, 5, 6, 0] rfl (hrc _ _ _ _ _ _ _ h)
set_option maxRecDepth 100000 in
set_option maxHeartbeats 4000000 in
theorem wX12_triesPlanks_93 {l : Launch} {D : va_G} {cI cZ : ClassId} {ad : Nat → Nat} {a : Program × Env × State × MethodId} {b : Array Value × List Frame × Method × Code × (State → Prop) × Nat} {A : Nat → Prop} {k123 : Int32 → Int32 → Int32 → Int32 → Int32 → St → Option (Int32 × St)} {rc : Int32 → Int32 → Int32 → Int32 → Int32 → Int32 → St → Option (Int32 × St)} (K : KS (GM l 7 164 D cI cZ ad a b A) cX12_triesPlanks RX12 wsX12_triesPlanks (some .boolean)) (hn : x_n (GM l 7 164 D cI cZ ad a b A) = 7) {res : (Int32 × St)} (hR : HRi (GM l 7 164 D cI cZ ad a b A) cX12_triesPlanks zb res) (hk123 : ∀ (v1 : Int32) (v2 : Int32) (v3 : Int32) (v4 : Int32) (v5 : Int32) (σ : St), k123 v1 v2 v3 v4 v5 σ = some res → Wk (GM l 7 164 D cI cZ ad a b A) 123 [(0, .ref (ad 0)), (1, .int v1), (2, .int v2), (3, .int v3), (4, .int v4), (5, .int v5)] [] σ) (hrc : ∀ (v1 : Int32) (v2 : Int32) (v3 : Int32) (v4 : Int32) (v5 : Int32) (v6 : Int32) (σ : St), rc v1 v2 v3 v4 v5 v6 σ = some res → Wk (GM l 7 164 D cI cZ ad a b A) 59 [(0, .ref (ad 0)), (1, .int v1), (2, .int v2), (3, .int v3), (4, .int v4), (5, .int v5), (6, .int v6)] [] σ) : ∀ (v1 : Int32), ∀ (v2 : Int32), ∀ (v3 : Int32), ∀ (v4 : Int32), ∀ (v5 : Int32), ∀ (v6 : Int32), ∀ (t0 : Int32), ∀ (σ : St), mX12_triesPlanks_93 k123 rc v1 v2 v3 v4 v5 v6 t0 σ = some res → Wk (GM l 7 164 D cI cZ ad a b A) 93 [(0, .ref (ad 0)), (1, .int v1), (2, .int v2), (3, .int v3), (4, .int v4), (5, .int v5), (6, .int v6)] [.int t0, .ref (ad 0)] σ := by
  intro v1 v2 v3 v4 v5 v6 t0 σ h
  unfold mX12_triesPlanks_93 at h
  have h := lt_some h
  refine k_putI K 0 12 31 tyX12 tyX12_ok nmX12 iX12_triesPlanks_X12 (Nat.le_of_ble_eq_true rfl) ((mM_0 cI cZ ad) _) rfl (by decide) fX12_triesPlanks_60 rfl (by decide +kernel) (Nat.le_of_ble_eq_true rfl) (pM_0_31 cI cZ ad _ _) dX12_triesPlanks_93 ?_
  refine k_aload_n K dX12_triesPlanks_96 0 rfl ?_
  refine k_get K 0 12 31 iX12_triesPlanks_X12 (Nat.le_of_ble_eq_true rfl) ((mM_0 cI cZ ad) _) rfl (by decide) fX12_triesPlanks_60 rfl dX12_triesPlanks_97 ?_
  refine k_bipush (x := (-9)) K dX12_triesPlanks_100 (by decide) ?_
  refine k_icmp_eq (tgt := 117) K dX12_triesPlanks_102 (by decide) (fun q => ?_) (fun q => ?_)
  · have h := if_t q h
    exact k_sub [0, 1, 2, 3, 4, 5, 6] rfl (wX12_triesPlanks_117 K hn hR hk123 hrc _ _ _ _ _ _ _ h)
  · have h := if_f q h
    refine k_aload_n K dX12_triesPlanks_105 0 rfl ?_
    refine k_iload_n K dX12_triesPlanks_106 1 rfl ?_
    refine k_iload_n K dX12_triesPlanks_107 2 rfl ?_
    obtain ⟨⟨r19, s20⟩, e21, h⟩ := bd_some h
    dsimp only at h
    refine k_callVi K 0 12 (Nat.le_of_ble_eq_true rfl) ((mM_0 cI cZ ad) _) rfl (ctX12_endOf e21) (cwV 2 K.ts gX12_triesPlanks_X12_endOf rfl rfl rfl hVX12_endOf ⟨Nat.le_of_ble_eq_true rfl, Nat.le_of_ble_eq_true rfl⟩) rfl rfl (Nat.le_of_ble_eq_true rfl) dX12_triesPlanks_108 ?_
    refine k_iload_n K dX12_triesPlanks_111 3 rfl ?_
    refine k_icmp_ne (tgt := 117) K dX12_triesPlanks_112 (by decide) (fun q => ?_) (fun q => ?_)
    · have h := if_f q h
      exact k_sub [0, 1, 2, 3, 4, 5, 6] rfl (wX12_triesPlanks_117 K hn hR hk123 hrc _ _ _ _ _ _ _ h)
    · have h := if_t q h
      refine k_iconst (x := 1) K dX12_triesPlanks_115 (by decide) ?_
      exact ret_i hR h dX12_triesPlanks_116 zb_1
set_option maxRecDepth 100000 in
set_option maxHeartbeats 4000000 in
theorem wX12_triesPlanks_59 {l : Launch} {D : va_G} {cI cZ : ClassId} {ad : Nat → Nat} {a : Program × Env × State × MethodId} {b : Array Value × List Frame × Method × Code × (State → Prop) × Nat} {A : Nat → Prop} {k123 : Int32 → Int32 → Int32 → Int32 → Int32 → St → Option (Int32 × St)} (K : KS (GM l 7 164 D cI cZ ad a b A) cX12_triesPlanks RX12 wsX12_triesPlanks (some .boolean)) (hn : x_n (GM l 7 164 D cI cZ ad a b A) = 7) {res : (Int32 × St)} (hR : HRi (GM l 7 164 D cI cZ ad a b A) cX12_triesPlanks zb res) (hk123 : ∀ (v1 : Int32) (v2 : Int32) (v3 : Int32) (v4 : Int32) (v5 : Int32) (σ : St), k123 v1 v2 v3 v4 v5 σ = some res → Wk (GM l 7 164 D cI cZ ad a b A) 123 [(0, .ref (ad 0)), (1, .int v1), (2, .int v2), (3, .int v3), (4, .int v4), (5, .int v5)] [] σ) : ∀ (n : Nat) (v1 : Int32) (v2 : Int32) (v3 : Int32) (v4 : Int32) (v5 : Int32) (v6 : Int32) (σ : St), mX12_triesPlanks_59 k123 n v1 v2 v3 v4 v5 v6 σ = some res → Wk (GM l 7 164 D cI cZ ad a b A) 59 [(0, .ref (ad 0)), (1, .int v1), (2, .int v2), (3, .int v3), (4, .int v4), (5, .int v5), (6, .int v6)] [] σ := by
  intro n
  induction n with
  | zero => intro v1 v2 v3 v4 v5 v6 σ h; cases h
  | succ n ih =>
    intro v1 v2 v3 v4 v5 v6 σ h
    unfold mX12_triesPlanks_59 at h
    refine k_iload K dX12_triesPlanks_59 6 rfl ?_
    refine k_iconst (x := 2) K dX12_triesPlanks_61 (by decide) ?_
    refine k_aload_n K dX12_triesPlanks_62 0 rfl ?_
    obtain ⟨⟨r11, s12⟩, e13, h⟩ := bd_some h
    dsimp only at h
    refine k_callVi K 0 12 (Nat.le_of_ble_eq_true rfl) ((mM_0 cI cZ ad) _) rfl (ctX12_cells e13) (cwV 0 K.ts gX12_triesPlanks_X12_cells rfl rfl rfl hVX12_cells ⟨Nat.le_of_ble_eq_true rfl, Nat.le_of_ble_eq_true rfl⟩) rfl rfl (Nat.le_of_ble_eq_true rfl) dX12_triesPlanks_63 ?_
    refine k_imul K dX12_triesPlanks_66 ?_
    refine k_icmp_ge (tgt := 123) K dX12_triesPlanks_67 (by decide) (fun q => ?_) (fun q => ?_)
    · have h := if_f q h
      exact k_sub [0, 1, 2, 3, 4, 5] rfl (hk123 _ _ _ _ _ _ h)
    · have h := if_t q h
      refine k_iload K dX12_triesPlanks_70 4 rfl ?_
      refine k_iconst (x := 2) K dX12_triesPlanks_72 (by decide) ?_
      refine k_icmp_ne (tgt := 123) K dX12_triesPlanks_73 (by decide) (fun q => ?_) (fun q => ?_)
      · have h := if_f q h
        exact k_sub [0, 1, 2, 3, 4, 5] rfl (hk123 _ _ _ _ _ _ h)
      · have h := if_t q h
        refine k_aload_n K dX12_triesPlanks_76 0 rfl ?_
        refine k_aload_n K dX12_triesPlanks_77 0 rfl ?_
        refine k_iload K dX12_triesPlanks_78 6 rfl ?_
        obtain ⟨⟨r14, s15⟩, e16, h⟩ := bd_some h
        dsimp only at h
        refine k_callVi K 0 12 (Nat.le_of_ble_eq_true rfl) ((mM_0 cI cZ ad) _) rfl (ctX12_isFree e16) (cwV 1 K.ts gX12_triesPlanks_X12_isFree rfl rfl rfl hVX12_isFree ⟨Nat.le_of_ble_eq_true rfl, Nat.le_of_ble_eq_true rfl⟩) rfl rfl (Nat.le_of_ble_eq_true rfl) dX12_triesPlanks_80 ?_
        refine k_if_eq (tgt := 91) K dX12_triesPlanks_83 (by decide) (fun q => ?_) (fun q => ?_)
        · have h := if_t q h
          refine k_bipush (x := (-9)) K dX12_triesPlanks_91 (by decide) ?_
          exact k_sub [0, 1, 2, 3, 4, 5, 6] rfl (wX12_triesPlanks_93 K hn hR hk123 ih _ _ _ _ _ _ _ _ h)
        · have h := if_f q h
          refine k_iload K dX12_triesPlanks_86 6 rfl ?_
          refine k_goto (tgt := 93) K dX12_triesPlanks_88 (by decide) ?_
          exact k_sub [0, 1, 2, 3, 4, 5, 6] rfl (wX12_triesPlanks_93 K hn hR hk123 ih _ _ _ _ _ _ _ _ h)
set_option maxRecDepth 100000 in
set_option maxHeartbeats 4000000 in
theorem wX12_triesPlanks_53 {l : Launch} {D : va_G} {cI cZ : ClassId} {ad : Nat → Nat} {a : Program × Env × State × MethodId} {b : Array Value × List Frame × Method × Code × (State → Prop) × Nat} {A : Nat → Prop} {rc : Int32 → Int32 → Int32 → Int32 → Int32 → St → Option (Int32 × St)} (K : KS (GM l 7 164 D cI cZ ad a b A) cX12_triesPlanks RX12 wsX12_triesPlanks (some .boolean)) (hn : x_n (GM l 7 164 D cI cZ ad a b A) = 7) {res : (Int32 × St)} (hR : HRi (GM l 7 164 D cI cZ ad a b A) cX12_triesPlanks zb res) (hrc : ∀ (v1 : Int32) (v2 : Int32) (v3 : Int32) (v4 : Int32) (v5 : Int32) (σ : St), rc v1 v2 v3 v4 v5 σ = some res → Wk (GM l 7 164 D cI cZ ad a b A) 3 [(0, .ref (ad 0)), (1, .int v1), (2, .int v2), (3, .int v3), (4, .int v4), (5, .int v5)] [] σ) : ∀ (v1 : Int32), ∀ (v2 : Int32), ∀ (v3 : Int32), ∀ (v4 : Int32), ∀ (v5 : Int32), ∀ (σ : St), mX12_triesPlanks_53 rc v1 v2 v3 v4 v5 σ = some res → Wk (GM l 7 164 D cI cZ ad a b A) 53 [(0, .ref (ad 0)), (1, .int v1), (2, .int v2), (3, .int v3), (4, .int v4), (5, .int v5)] [] σ := by
  intro v1 v2 v3 v4 v5 σ h
  unfold mX12_triesPlanks_53 at h
  refine k_iload K dX12_triesPlanks_53 5 rfl ?_
  refine k_iconst (x := 1) K dX12_triesPlanks_55 (by decide) ?_
  refine k_iadd K dX12_triesPlanks_56 ?_
  have h := lt_some h
  refine k_istore (lv' := [(6, _), (0, _), (1, _), (2, _), (3, _), (4, _), (5, _)]) K dX12_triesPlanks_57 (by rw [hn]; decide) rfl ?_
  exact k_sub [1, 2, 3, 4, 5, 6, 0] rfl (wX12_triesPlanks_59 K hn hR (fun v1 v2 v3 v4 v5 σ h => wX12_triesPlanks_123 K hn hR hrc v1 v2 v3 v4 v5 σ h) FU _ _ _ _ _ _ _ h)
set_option maxRecDepth 100000 in
set_option maxHeartbeats 4000000 in
theorem wX12_triesPlanks_3 {l : Launch} {D : va_G} {cI cZ : ClassId} {ad : Nat → Nat} {a : Program × Env × State × MethodId} {b : Array Value × List Frame × Method × Code × (State → Prop) × Nat} {A : Nat → Prop} (K : KS (GM l 7 164 D cI cZ ad a b A) cX12_triesPlanks RX12 wsX12_triesPlanks (some .boolean)) (hn : x_n (GM l 7 164 D cI cZ ad a b A) = 7) {res : (Int32 × St)} (hR : HRi (GM l 7 164 D cI cZ ad a b A) cX12_triesPlanks zb res) : ∀ (n : Nat) (v1 : Int32) (v2 : Int32) (v3 : Int32) (v4 : Int32) (v5 : Int32) (σ : St), mX12_triesPlanks_3 n v1 v2 v3 v4 v5 σ = some res → Wk (GM l 7 164 D cI cZ ad a b A) 3 [(0, .ref (ad 0)), (1, .int v1), (2, .int v2), (3, .int v3), (4, .int v4), (5, .int v5)] [] σ := by
  intro n
  induction n with
  | zero => intro v1 v2 v3 v4 v5 σ h; cases h
  | succ n ih =>
    intro v1 v2 v3 v4 v5 σ h
    unfold mX12_triesPlanks_3 at h
    refine k_iload K dX12_triesPlanks_3 5 rfl ?_
    refine k_iconst (x := 2) K dX12_triesPlanks_5 (by decide) ?_
    refine k_aload_n K dX12_triesPlanks_6 0 rfl ?_
    obtain ⟨⟨r1, s2⟩, e3, h⟩ := bd_some h
    dsimp only at h
    refine k_callVi K 0 12 (Nat.le_of_ble_eq_true rfl) ((mM_0 cI cZ ad) _) rfl (ctX12_cells e3) (cwV 0 K.ts gX12_triesPlanks_X12_cells rfl rfl rfl hVX12_cells ⟨Nat.le_of_ble_eq_true rfl, Nat.le_of_ble_eq_true rfl⟩) rfl rfl (Nat.le_of_ble_eq_true rfl) dX12_triesPlanks_7 ?_
    refine k_imul K dX12_triesPlanks_10 ?_
    refine k_icmp_ge (tgt := 129) K dX12_triesPlanks_11 (by decide) (fun q => ?_) (fun q => ?_)
    · have h := if_f q h
      refine k_iconst (x := 0) K dX12_triesPlanks_129 (by decide) ?_
      exact ret_i hR h dX12_triesPlanks_130 zb_0
    · have h := if_t q h
      refine k_aload_n K dX12_triesPlanks_14 0 rfl ?_
      refine k_iload K dX12_triesPlanks_15 5 rfl ?_
      obtain ⟨⟨r4, s5⟩, e6, h⟩ := bd_some h
      dsimp only at h
      refine k_callVi K 0 12 (Nat.le_of_ble_eq_true rfl) ((mM_0 cI cZ ad) _) rfl (ctX12_isFree e6) (cwV 1 K.ts gX12_triesPlanks_X12_isFree rfl rfl rfl hVX12_isFree ⟨Nat.le_of_ble_eq_true rfl, Nat.le_of_ble_eq_true rfl⟩) rfl rfl (Nat.le_of_ble_eq_true rfl) dX12_triesPlanks_17 ?_
      refine k_if_eq (tgt := 123) K dX12_triesPlanks_20 (by decide) (fun q => ?_) (fun q => ?_)
      · have h := if_t q h
        exact k_sub [0, 1, 2, 3, 4, 5] rfl (wX12_triesPlanks_123 K hn hR ih _ _ _ _ _ _ h)
      · have h := if_f q h
        refine k_aload_n K dX12_triesPlanks_23 0 rfl ?_
        refine k_iload K dX12_triesPlanks_24 5 rfl ?_
        have h := lt_some h
        refine k_putI K 0 12 30 tyX12 tyX12_ok nmX12 iX12_triesPlanks_X12 (Nat.le_of_ble_eq_true rfl) ((mM_0 cI cZ ad) _) rfl (by decide) fX12_triesPlanks_56 rfl (by decide +kernel) (Nat.le_of_ble_eq_true rfl) (pM_0_30 cI cZ ad _ _) dX12_triesPlanks_26 ?_
        refine k_aload_n K dX12_triesPlanks_29 0 rfl ?_
        refine k_bipush (x := (-9)) K dX12_triesPlanks_30 (by decide) ?_
        have h := lt_some h
        refine k_putI K 0 12 31 tyX12 tyX12_ok nmX12 iX12_triesPlanks_X12 (Nat.le_of_ble_eq_true rfl) ((mM_0 cI cZ ad) _) rfl (by decide) fX12_triesPlanks_60 rfl (by decide +kernel) (Nat.le_of_ble_eq_true rfl) (pM_0_31 cI cZ ad _ _) dX12_triesPlanks_32 ?_
        refine k_iload K dX12_triesPlanks_35 4 rfl ?_
        refine k_iconst (x := 1) K dX12_triesPlanks_37 (by decide) ?_
        refine k_icmp_ne (tgt := 53) K dX12_triesPlanks_38 (by decide) (fun q => ?_) (fun q => ?_)
        · have h := if_f q h
          exact k_sub [0, 1, 2, 3, 4, 5] rfl (wX12_triesPlanks_53 K hn hR ih _ _ _ _ _ _ h)
        · have h := if_t q h
          refine k_aload_n K dX12_triesPlanks_41 0 rfl ?_
          refine k_iload_n K dX12_triesPlanks_42 1 rfl ?_
          refine k_iload_n K dX12_triesPlanks_43 2 rfl ?_
          obtain ⟨⟨r22, s23⟩, e24, h⟩ := bd_some h
          dsimp only at h
          refine k_callVi K 0 12 (Nat.le_of_ble_eq_true rfl) ((mM_0 cI cZ ad) _) rfl (ctX12_endOf e24) (cwV 2 K.ts gX12_triesPlanks_X12_endOf rfl rfl rfl hVX12_endOf ⟨Nat.le_of_ble_eq_true rfl, Nat.le_of_ble_eq_true rfl⟩) rfl rfl (Nat.le_of_ble_eq_true rfl) dX12_triesPlanks_44 ?_
          refine k_iload_n K dX12_triesPlanks_47 3 rfl ?_
          refine k_icmp_ne (tgt := 53) K dX12_triesPlanks_48 (by decide) (fun q => ?_) (fun q => ?_)
          · have h := if_f q h
            exact k_sub [0, 1, 2, 3, 4, 5] rfl (wX12_triesPlanks_53 K hn hR ih _ _ _ _ _ _ h)
          · have h := if_t q h
            refine k_iconst (x := 1) K dX12_triesPlanks_51 (by decide) ?_
            exact ret_i hR h dX12_triesPlanks_52 zb_1
set_option maxRecDepth 100000 in
set_option maxHeartbeats 4000000 in
theorem ctX12_triesPlanks {l : Launch} {D : va_G} {cI cZ : ClassId} {ad : Nat → Nat} {v1 : Int32} {v2 : Int32} {v3 : Int32} {v4 : Int32} {σ : St} {res : (Int32 × St)} (h : mX12_triesPlanks v1 v2 v3 v4 σ = some res) : Ci l yX12_triesPlanks wsX12_triesPlanks 7 164 D vwCl (tysM cI cZ) nwM (mkM cI cZ ad) ad 17 [.ref (ad 0), .int v1, .int v2, .int v3, .int v4] σ res := by
  refine c_bool (cc := cX12_triesPlanks) (maxL := 7) (by decide) rfl (Nat.le_of_ble_eq_true rfl) fun a b hn K hR => ?_
  unfold mX12_triesPlanks at h
  have K : KS (GM l 7 164 D cI cZ ad a b (w_A ad 17)) cX12_triesPlanks RX12 wsX12_triesPlanks (some .boolean) := K
  have hn : x_n (GM l 7 164 D cI cZ ad a b (w_A ad 17)) = 7 := hn
  refine k_sub [0, 1, 2, 3, 4] rfl ?_
  refine k_iconst (x := 0) K dX12_triesPlanks_0 (by decide) ?_
  refine k_istore (lv' := [(5, _), (0, _), (1, _), (2, _), (3, _), (4, _)]) K dX12_triesPlanks_1 (by rw [hn]; decide) rfl ?_
  exact k_sub [1, 2, 3, 4, 5, 0] rfl (wX12_triesPlanks_3 K hn hR FU _ _ _ _ _ _ h)

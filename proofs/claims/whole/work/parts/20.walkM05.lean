/-! walks, by program -/
-- X12_rolls (7, 167)
theorem iX12_rolls_X12 : ∀ w ∈ wsX120, w ∈ wsX12_rolls := fun _ h => List.mem_cons_of_mem _ (List.mem_append_right _ h)
theorem fX12_rolls_63 : Cond.fieldLink RX12 63 "SlopeCoinsModel" "aparts" "[I" ∈ wsX12_rolls := by decide +kernel
theorem fX12_rolls_149 : Cond.fieldLink RX12 149 "SlopeCoinsModel" "kinds" "I" ∈ wsX12_rolls := by decide +kernel
set_option maxRecDepth 100000 in
set_option maxHeartbeats 4000000 in
theorem wX12_rolls_54 {l : Launch} {D : va_G} {cI cZ : ClassId} {ad : Nat → Nat} {a : Program × Env × State × MethodId} {b : Array Value × List Frame × Method × Code × (State → Prop) × Nat} {A : Nat → Prop} (K : KS (GM l 7 167 D cI cZ ad a b A) cX12_rolls RX12 wsX12_rolls (some .int)) (hn : x_n (GM l 7 167 D cI cZ ad a b A) = 4) {res : (Int32 × St)} (hR : HRi (GM l 7 167 D cI cZ ad a b A) cX12_rolls tb res) : ∀ (n : Nat) (v1 : Int32) (v2 : Int32) (σ : St), mX12_rolls_54 n v1 v2 σ = some res → Wk (GM l 7 167 D cI cZ ad a b A) 54 [(0, .ref (ad 0)), (1, .int v1), (2, .int v2)] [] σ := by
  intro n
  induction n with
  | zero => intro v1 v2 σ h; cases h
  | succ n ih =>
    intro v1 v2 σ h
    unfold mX12_rolls_54 at h
    refine k_iload_n K dX12_rolls_54 2 rfl ?_
    refine k_iconst (x := 4) K dX12_rolls_55 (by decide) ?_
    refine k_icmp_ge (tgt := 80) K dX12_rolls_56 (by decide) (fun q => ?_) (fun q => ?_)
    · have h := if_f q h
      refine k_bipush (x := (-9)) K dX12_rolls_80 (by decide) ?_
      exact ret_i hR h dX12_rolls_82 trivial
    · have h := if_t q h
      refine k_aload_n K dX12_rolls_59 0 rfl ?_
      refine k_iload_n K dX12_rolls_60 2 rfl ?_
      refine k_iload_n K dX12_rolls_61 1 rfl ?_
      obtain ⟨⟨r1, s2⟩, e3, h⟩ := bd_some h
      dsimp only at h
      refine k_callVi K 0 12 (Nat.le_of_ble_eq_true rfl) ((mM_0 cI cZ ad) _) rfl (ctX12_rollsOf e3) (cwV 2 K.ts gX12_rolls_X12_rollsOf rfl rfl rfl hVX12_rollsOf ⟨Nat.le_of_ble_eq_true rfl, Nat.le_of_ble_eq_true rfl⟩) rfl rfl (Nat.le_of_ble_eq_true rfl) dX12_rolls_62 ?_
      refine k_istore_n (lv' := [(3, _), (0, _), (1, _), (2, _)]) K dX12_rolls_65 (by rw [hn]; decide) rfl ?_
      refine k_iload_n K dX12_rolls_66 0 rfl ?_
      refine k_bipush (x := (-9)) K dX12_rolls_67 (by decide) ?_
      refine k_icmp_eq (tgt := 74) K dX12_rolls_69 (by decide) (fun q => ?_) (fun q => ?_)
      · have h := if_t q h
        have h := lt_some h
        refine k_iinc (lv' := [(2, _), (3, _), (0, _), (1, _)]) K dX12_rolls_74 3 rfl (v := _ + 1) (by rfl) (by rw [hn]; decide) rfl ?_
        refine k_goto (tgt := 54) K dX12_rolls_77 (by decide) ?_
        exact k_sub [2, 3, 0] rfl (ih _ _ _ h)
      · have h := if_f q h
        refine k_iload_n K dX12_rolls_72 0 rfl ?_
        exact ret_i hR h dX12_rolls_73 trivial
set_option maxRecDepth 100000 in
set_option maxHeartbeats 4000000 in
theorem wX12_rolls_46 {l : Launch} {D : va_G} {cI cZ : ClassId} {ad : Nat → Nat} {a : Program × Env × State × MethodId} {b : Array Value × List Frame × Method × Code × (State → Prop) × Nat} {A : Nat → Prop} (K : KS (GM l 7 167 D cI cZ ad a b A) cX12_rolls RX12 wsX12_rolls (some .int)) (hn : x_n (GM l 7 167 D cI cZ ad a b A) = 4) {res : (Int32 × St)} (hR : HRi (GM l 7 167 D cI cZ ad a b A) cX12_rolls tb res) : ∀ (v1 : Int32), ∀ (σ : St), mX12_rolls_46 v1 σ = some res → Wk (GM l 7 167 D cI cZ ad a b A) 46 [(0, .ref (ad 0)), (1, .int v1)] [] σ := by
  intro v1 σ h
  unfold mX12_rolls_46 at h
  refine k_iload_n K dX12_rolls_46 1 rfl ?_
  refine k_if_ne (tgt := 52) K dX12_rolls_47 (by decide) (fun q => ?_) (fun q => ?_)
  · have h := if_f q h
    refine k_iconst (x := 1) K dX12_rolls_52 (by decide) ?_
    refine k_istore_n (lv' := [(2, _), (0, _), (1, _)]) K dX12_rolls_53 (by rw [hn]; decide) rfl ?_
    exact k_sub [1, 2, 0] rfl (wX12_rolls_54 K hn hR FU _ _ _ h)
  · have h := if_t q h
    refine k_iconst (x := 0) K dX12_rolls_50 (by decide) ?_
    exact ret_i hR h dX12_rolls_51 trivial
set_option maxRecDepth 100000 in
set_option maxHeartbeats 4000000 in
theorem wX12_rolls_40 {l : Launch} {D : va_G} {cI cZ : ClassId} {ad : Nat → Nat} {a : Program × Env × State × MethodId} {b : Array Value × List Frame × Method × Code × (State → Prop) × Nat} {A : Nat → Prop} {k46 : Int32 → St → Option (Int32 × St)} {rc : Int32 → Int32 → St → Option (Int32 × St)} (K : KS (GM l 7 167 D cI cZ ad a b A) cX12_rolls RX12 wsX12_rolls (some .int)) (hn : x_n (GM l 7 167 D cI cZ ad a b A) = 4) {res : (Int32 × St)} (hR : HRi (GM l 7 167 D cI cZ ad a b A) cX12_rolls tb res) (hk46 : ∀ (v1 : Int32) (σ : St), k46 v1 σ = some res → Wk (GM l 7 167 D cI cZ ad a b A) 46 [(0, .ref (ad 0)), (1, .int v1)] [] σ) (hrc : ∀ (v1 : Int32) (v2 : Int32) (σ : St), rc v1 v2 σ = some res → Wk (GM l 7 167 D cI cZ ad a b A) 4 [(0, .ref (ad 0)), (1, .int v1), (2, .int v2)] [] σ) : ∀ (v1 : Int32), ∀ (v2 : Int32), ∀ (σ : St), mX12_rolls_40 k46 rc v1 v2 σ = some res → Wk (GM l 7 167 D cI cZ ad a b A) 40 [(0, .ref (ad 0)), (1, .int v1), (2, .int v2)] [] σ := by
  intro v1 v2 σ h
  unfold mX12_rolls_40 at h
  have h := lt_some h
  refine k_iinc (lv' := [(2, _), (0, _), (1, _)]) K dX12_rolls_40 2 rfl (v := _ + 1) (by rfl) (by rw [hn]; decide) rfl ?_
  refine k_goto (tgt := 4) K dX12_rolls_43 (by decide) ?_
  exact k_sub [1, 2, 0] rfl (hrc _ _ _ h)
set_option maxRecDepth 100000 in
set_option maxHeartbeats 4000000 in
theorem wX12_rolls_14 {l : Launch} {D : va_G} {cI cZ : ClassId} {ad : Nat → Nat} {a : Program × Env × State × MethodId} {b : Array Value × List Frame × Method × Code × (State → Prop) × Nat} {A : Nat → Prop} {k40 : Int32 → Int32 → St → Option (Int32 × St)} (K : KS (GM l 7 167 D cI cZ ad a b A) cX12_rolls RX12 wsX12_rolls (some .int)) (hn : x_n (GM l 7 167 D cI cZ ad a b A) = 4) {res : (Int32 × St)} (hR : HRi (GM l 7 167 D cI cZ ad a b A) cX12_rolls tb res) (hk40 : ∀ (v1 : Int32) (v2 : Int32) (σ : St), k40 v1 v2 σ = some res → Wk (GM l 7 167 D cI cZ ad a b A) 40 [(0, .ref (ad 0)), (1, .int v1), (2, .int v2)] [] σ) : ∀ (n : Nat) (v1 : Int32) (v2 : Int32) (v3 : Int32) (σ : St), mX12_rolls_14 k40 n v1 v2 v3 σ = some res → Wk (GM l 7 167 D cI cZ ad a b A) 14 [(0, .ref (ad 0)), (1, .int v1), (2, .int v2), (3, .int v3)] [] σ := by
  intro n
  induction n with
  | zero => intro v1 v2 v3 σ h; cases h
  | succ n ih =>
    intro v1 v2 v3 σ h
    unfold mX12_rolls_14 at h
    refine k_iload_n K dX12_rolls_14 3 rfl ?_
    refine k_iload_n K dX12_rolls_15 2 rfl ?_
    refine k_icmp_ge (tgt := 40) K dX12_rolls_16 (by decide) (fun q => ?_) (fun q => ?_)
    · have h := if_f q h
      exact k_sub [0, 1, 2] rfl (hk40 _ _ _ h)
    · have h := if_t q h
      refine k_aload_n K dX12_rolls_19 0 rfl ?_
      refine k_get K 0 12 35 iX12_rolls_X12 (Nat.le_of_ble_eq_true rfl) ((mM_0 cI cZ ad) _) rfl (by decide) fX12_rolls_63 rfl dX12_rolls_20 ?_
      refine k_iload_n K dX12_rolls_23 1 rfl ?_
      refine k_aload_n K dX12_rolls_24 0 rfl ?_
      refine k_iload_n K dX12_rolls_25 2 rfl ?_
      refine k_iload_n K dX12_rolls_26 3 rfl ?_
      obtain ⟨⟨r6, s7⟩, e8, h⟩ := bd_some h
      dsimp only at h
      refine k_callVi K 0 12 (Nat.le_of_ble_eq_true rfl) ((mM_0 cI cZ ad) _) rfl (ctX12_apartOf e8) (cwV 2 K.ts gX12_rolls_X12_apartOf rfl rfl rfl hVX12_apartOf ⟨Nat.le_of_ble_eq_true rfl, Nat.le_of_ble_eq_true rfl⟩) rfl rfl (Nat.le_of_ble_eq_true rfl) dX12_rolls_27 ?_
      obtain ⟨g9, h⟩ := gd_some h
      have h := lt_some h
      refine k_ist K 16 0 (Nat.le_of_ble_eq_true rfl) (mM_16 cI cZ ad) rfl g9 dX12_rolls_30 ?_
      have h := lt_some h
      refine k_iinc (lv' := [(1, _), (0, _), (2, _), (3, _)]) K dX12_rolls_31 1 rfl (v := _ + 1) (by rfl) (by rw [hn]; decide) rfl ?_
      have h := lt_some h
      refine k_iinc (lv' := [(3, _), (1, _), (0, _), (2, _)]) K dX12_rolls_34 3 rfl (v := _ + 1) (by rfl) (by rw [hn]; decide) rfl ?_
      refine k_goto (tgt := 14) K dX12_rolls_37 (by decide) ?_
      exact k_sub [2, 1, 3, 0] rfl (ih _ _ _ _ h)
set_option maxRecDepth 100000 in
set_option maxHeartbeats 4000000 in
theorem wX12_rolls_4 {l : Launch} {D : va_G} {cI cZ : ClassId} {ad : Nat → Nat} {a : Program × Env × State × MethodId} {b : Array Value × List Frame × Method × Code × (State → Prop) × Nat} {A : Nat → Prop} {k46 : Int32 → St → Option (Int32 × St)} (K : KS (GM l 7 167 D cI cZ ad a b A) cX12_rolls RX12 wsX12_rolls (some .int)) (hn : x_n (GM l 7 167 D cI cZ ad a b A) = 4) {res : (Int32 × St)} (hR : HRi (GM l 7 167 D cI cZ ad a b A) cX12_rolls tb res) (hk46 : ∀ (v1 : Int32) (σ : St), k46 v1 σ = some res → Wk (GM l 7 167 D cI cZ ad a b A) 46 [(0, .ref (ad 0)), (1, .int v1)] [] σ) : ∀ (n : Nat) (v1 : Int32) (v2 : Int32) (σ : St), mX12_rolls_4 k46 n v1 v2 σ = some res → Wk (GM l 7 167 D cI cZ ad a b A) 4 [(0, .ref (ad 0)), (1, .int v1), (2, .int v2)] [] σ := by
  intro n
  induction n with
  | zero => intro v1 v2 σ h; cases h
  | succ n ih =>
    intro v1 v2 σ h
    unfold mX12_rolls_4 at h
    refine k_iload_n K dX12_rolls_4 2 rfl ?_
    refine k_aload_n K dX12_rolls_5 0 rfl ?_
    refine k_get K 0 12 10 iX12_rolls_X12 (Nat.le_of_ble_eq_true rfl) ((mM_0 cI cZ ad) _) rfl (by decide) fX12_rolls_149 rfl dX12_rolls_6 ?_
    refine k_icmp_ge (tgt := 46) K dX12_rolls_9 (by decide) (fun q => ?_) (fun q => ?_)
    · have h := if_f q h
      exact k_sub [0, 1] rfl (hk46 _ _ h)
    · have h := if_t q h
      refine k_iconst (x := 0) K dX12_rolls_12 (by decide) ?_
      refine k_istore_n (lv' := [(3, _), (0, _), (1, _), (2, _)]) K dX12_rolls_13 (by rw [hn]; decide) rfl ?_
      exact k_sub [1, 2, 3, 0] rfl (wX12_rolls_14 K hn hR (fun v1 v2 σ h => wX12_rolls_40 K hn hR hk46 ih v1 v2 σ h) FU _ _ _ _ h)
set_option maxRecDepth 100000 in
set_option maxHeartbeats 4000000 in
theorem ctX12_rolls {l : Launch} {D : va_G} {cI cZ : ClassId} {ad : Nat → Nat} {σ : St} {res : (Int32 × St)} (h : mX12_rolls σ = some res) : Ci l yX12_rolls wsX12_rolls 7 167 D vwCl (tysM cI cZ) nwM (mkM cI cZ ad) ad 17 [.ref (ad 0)] σ res := by
  refine c_int (cc := cX12_rolls) (maxL := 4) (by decide) rfl (Nat.le_of_ble_eq_true rfl) fun a b hn K hR => ?_
  unfold mX12_rolls at h
  have K : KS (GM l 7 167 D cI cZ ad a b (w_A ad 17)) cX12_rolls RX12 wsX12_rolls (some .int) := K
  have hn : x_n (GM l 7 167 D cI cZ ad a b (w_A ad 17)) = 4 := hn
  refine k_sub [0] rfl ?_
  refine k_iconst (x := 0) K dX12_rolls_0 (by decide) ?_
  refine k_istore_n (lv' := [(1, _), (0, _)]) K dX12_rolls_1 (by rw [hn]; decide) rfl ?_
  refine k_iconst (x := 0) K dX12_rolls_2 (by decide) ?_
  refine k_istore_n (lv' := [(2, _), (1, _), (0, _)]) K dX12_rolls_3 (by rw [hn]; decide) rfl ?_
  exact k_sub [2, 1, 0] rfl (wX12_rolls_4 K hn hR (fun v1 σ h => wX12_rolls_46 K hn hR v1 σ h) FU _ _ _ h)
-- X12_saw (3, 68)
theorem iX12_saw_X12 : ∀ w ∈ wsX120, w ∈ wsX12_saw := fun _ h => List.mem_cons_of_mem _ (List.mem_append_right _ h)
theorem fX12_saw_38 : Cond.fieldLink RX12 38 "SlopeCoinsModel" "seen" "[I" ∈ wsX12_saw := by decide +kernel
theorem fX12_saw_157 : Cond.fieldLink RX12 157 "SlopeCoinsModel" "seenMany" "I" ∈ wsX12_saw := by decide +kernel
set_option maxRecDepth 100000 in
set_option maxHeartbeats 4000000 in
theorem ctX12_saw {l : Launch} {D : va_G} {cI cZ : ClassId} {ad : Nat → Nat} {v1 : Int32} {v2 : Int32} {v3 : Int32} {σ : St} {res : (Int32 × St)} (h : mX12_saw v1 v2 v3 σ = some res) : Ci l yX12_saw wsX12_saw 3 68 D vwCl (tysM cI cZ) nwM (mkM cI cZ ad) ad 17 [.ref (ad 0), .int v1, .int v2, .int v3] σ res := by
  refine c_int (cc := cX12_saw) (maxL := 4) (by decide) rfl (Nat.le_of_ble_eq_true rfl) fun a b hn K hR => ?_
  unfold mX12_saw at h
  have K : KS (GM l 3 68 D cI cZ ad a b (w_A ad 17)) cX12_saw RX12 wsX12_saw (some .int) := K
  have hn : x_n (GM l 3 68 D cI cZ ad a b (w_A ad 17)) = 4 := hn
  refine k_sub [0, 1, 2, 3] rfl ?_
  refine k_aload_n K dX12_saw_0 0 rfl ?_
  refine k_iload_n K dX12_saw_1 1 rfl ?_
  obtain ⟨⟨r1, s2⟩, e3, h⟩ := bd_some h
  dsimp only at h
  refine k_callVi K 0 12 (Nat.le_of_ble_eq_true rfl) ((mM_0 cI cZ ad) _) rfl (ctX12_isKind e3) (cwV 1 K.ts gX12_saw_X12_isKind rfl rfl rfl hVX12_isKind ⟨Nat.le_of_ble_eq_true rfl, Nat.le_of_ble_eq_true rfl⟩) rfl rfl (Nat.le_of_ble_eq_true rfl) dX12_saw_2 ?_
  refine k_if_eq (tgt := 24) K dX12_saw_5 (by decide) (fun q => ?_) (fun q => ?_)
  · have h := if_t q h
    refine k_iconst (x := (-1)) K dX12_saw_24 (by decide) ?_
    exact ret_i hR h dX12_saw_25 trivial
  · have h := if_f q h
    refine k_aload_n K dX12_saw_8 0 rfl ?_
    refine k_iload_n K dX12_saw_9 2 rfl ?_
    obtain ⟨⟨r4, s5⟩, e6, h⟩ := bd_some h
    dsimp only at h
    refine k_callVi K 0 12 (Nat.le_of_ble_eq_true rfl) ((mM_0 cI cZ ad) _) rfl (ctX12_isPair e6) (cwV 1 K.ts gX12_saw_X12_isPair rfl rfl rfl hVX12_isPair ⟨Nat.le_of_ble_eq_true rfl, Nat.le_of_ble_eq_true rfl⟩) rfl rfl (Nat.le_of_ble_eq_true rfl) dX12_saw_10 ?_
    refine k_if_eq (tgt := 24) K dX12_saw_13 (by decide) (fun q => ?_) (fun q => ?_)
    · have h := if_t q h
      refine k_iconst (x := (-1)) K dX12_saw_24 (by decide) ?_
      exact ret_i hR h dX12_saw_25 trivial
    · have h := if_f q h
      refine k_aload_n K dX12_saw_16 0 rfl ?_
      refine k_iload_n K dX12_saw_17 3 rfl ?_
      obtain ⟨⟨r7, s8⟩, e9, h⟩ := bd_some h
      dsimp only at h
      refine k_callVi K 0 12 (Nat.le_of_ble_eq_true rfl) ((mM_0 cI cZ ad) _) rfl (ctX12_isPair e9) (cwV 1 K.ts gX12_saw_X12_isPair rfl rfl rfl hVX12_isPair ⟨Nat.le_of_ble_eq_true rfl, Nat.le_of_ble_eq_true rfl⟩) rfl rfl (Nat.le_of_ble_eq_true rfl) dX12_saw_18 ?_
      refine k_if_ne (tgt := 26) K dX12_saw_21 (by decide) (fun q => ?_) (fun q => ?_)
      · have h := if_f q h
        refine k_aload_n K dX12_saw_26 0 rfl ?_
        refine k_get K 0 12 15 iX12_saw_X12 (Nat.le_of_ble_eq_true rfl) ((mM_0 cI cZ ad) _) rfl (by decide) fX12_saw_157 rfl dX12_saw_27 ?_
        refine k_bipush (x := 6) K dX12_saw_30 (by decide) ?_
        refine k_icmp_ne (tgt := 38) K dX12_saw_32 (by decide) (fun q => ?_) (fun q => ?_)
        · have h := if_f q h
          refine k_aload_n K dX12_saw_38 0 rfl ?_
          refine k_get K 0 12 14 iX12_saw_X12 (Nat.le_of_ble_eq_true rfl) ((mM_0 cI cZ ad) _) rfl (by decide) fX12_saw_38 rfl dX12_saw_39 ?_
          refine k_iconst (x := 3) K dX12_saw_42 (by decide) ?_
          refine k_aload_n K dX12_saw_43 0 rfl ?_
          refine k_get K 0 12 15 iX12_saw_X12 (Nat.le_of_ble_eq_true rfl) ((mM_0 cI cZ ad) _) rfl (by decide) fX12_saw_157 rfl dX12_saw_44 ?_
          refine k_imul K dX12_saw_47 ?_
          refine k_iload_n K dX12_saw_48 1 rfl ?_
          obtain ⟨g10, h⟩ := gd_some h
          have h := lt_some h
          refine k_ist K 10 0 (Nat.le_of_ble_eq_true rfl) (mM_10 cI cZ ad) rfl g10 dX12_saw_49 ?_
          refine k_aload_n K dX12_saw_50 0 rfl ?_
          refine k_get K 0 12 14 iX12_saw_X12 (Nat.le_of_ble_eq_true rfl) ((mM_0 cI cZ ad) _) rfl (by decide) fX12_saw_38 rfl dX12_saw_51 ?_
          refine k_iconst (x := 3) K dX12_saw_54 (by decide) ?_
          refine k_aload_n K dX12_saw_55 0 rfl ?_
          refine k_get K 0 12 15 iX12_saw_X12 (Nat.le_of_ble_eq_true rfl) ((mM_0 cI cZ ad) _) rfl (by decide) fX12_saw_157 rfl dX12_saw_56 ?_
          refine k_imul K dX12_saw_59 ?_
          refine k_iconst (x := 1) K dX12_saw_60 (by decide) ?_
          refine k_iadd K dX12_saw_61 ?_
          refine k_aload_n K dX12_saw_62 0 rfl ?_
          refine k_iload_n K dX12_saw_63 2 rfl ?_
          obtain ⟨⟨r12, s13⟩, e14, h⟩ := bd_some h
          dsimp only at h
          refine k_callVi K 0 12 (Nat.le_of_ble_eq_true rfl) ((mM_0 cI cZ ad) _) rfl (ctX12_bitOf e14) (cwV 1 K.ts gX12_saw_X12_bitOf rfl rfl rfl hVX12_bitOf ⟨Nat.le_of_ble_eq_true rfl, Nat.le_of_ble_eq_true rfl⟩) rfl rfl (Nat.le_of_ble_eq_true rfl) dX12_saw_64 ?_
          obtain ⟨g15, h⟩ := gd_some h
          have h := lt_some h
          refine k_ist K 10 0 (Nat.le_of_ble_eq_true rfl) (mM_10 cI cZ ad) rfl g15 dX12_saw_67 ?_
          refine k_aload_n K dX12_saw_68 0 rfl ?_
          refine k_get K 0 12 14 iX12_saw_X12 (Nat.le_of_ble_eq_true rfl) ((mM_0 cI cZ ad) _) rfl (by decide) fX12_saw_38 rfl dX12_saw_69 ?_
          refine k_iconst (x := 3) K dX12_saw_72 (by decide) ?_
          refine k_aload_n K dX12_saw_73 0 rfl ?_
          refine k_get K 0 12 15 iX12_saw_X12 (Nat.le_of_ble_eq_true rfl) ((mM_0 cI cZ ad) _) rfl (by decide) fX12_saw_157 rfl dX12_saw_74 ?_
          refine k_imul K dX12_saw_77 ?_
          refine k_iconst (x := 2) K dX12_saw_78 (by decide) ?_
          refine k_iadd K dX12_saw_79 ?_
          refine k_aload_n K dX12_saw_80 0 rfl ?_
          refine k_iload_n K dX12_saw_81 3 rfl ?_
          obtain ⟨⟨r17, s18⟩, e19, h⟩ := bd_some h
          dsimp only at h
          refine k_callVi K 0 12 (Nat.le_of_ble_eq_true rfl) ((mM_0 cI cZ ad) _) rfl (ctX12_bitOf e19) (cwV 1 K.ts gX12_saw_X12_bitOf rfl rfl rfl hVX12_bitOf ⟨Nat.le_of_ble_eq_true rfl, Nat.le_of_ble_eq_true rfl⟩) rfl rfl (Nat.le_of_ble_eq_true rfl) dX12_saw_82 ?_
          obtain ⟨g20, h⟩ := gd_some h
          have h := lt_some h
          refine k_ist K 10 0 (Nat.le_of_ble_eq_true rfl) (mM_10 cI cZ ad) rfl g20 dX12_saw_85 ?_
          refine k_aload_n K dX12_saw_86 0 rfl ?_
          refine k_dup K dX12_saw_87 rfl ?_
          refine k_get K 0 12 15 iX12_saw_X12 (Nat.le_of_ble_eq_true rfl) ((mM_0 cI cZ ad) _) rfl (by decide) fX12_saw_157 rfl dX12_saw_88 ?_
          refine k_iconst (x := 1) K dX12_saw_91 (by decide) ?_
          refine k_iadd K dX12_saw_92 ?_
          have h := lt_some h
          refine k_putI K 0 12 15 tyX12 tyX12_ok nmX12 iX12_saw_X12 (Nat.le_of_ble_eq_true rfl) ((mM_0 cI cZ ad) _) rfl (by decide) fX12_saw_157 rfl (by decide +kernel) (Nat.le_of_ble_eq_true rfl) (pM_0_15 cI cZ ad _ _) dX12_saw_93 ?_
          refine k_aload_n K dX12_saw_96 0 rfl ?_
          refine k_get K 0 12 15 iX12_saw_X12 (Nat.le_of_ble_eq_true rfl) ((mM_0 cI cZ ad) _) rfl (by decide) fX12_saw_157 rfl dX12_saw_97 ?_
          exact ret_i hR h dX12_saw_100 trivial
        · have h := if_t q h
          refine k_bipush (x := (-3)) K dX12_saw_35 (by decide) ?_
          exact ret_i hR h dX12_saw_37 trivial
      · have h := if_t q h
        refine k_iconst (x := (-1)) K dX12_saw_24 (by decide) ?_
        exact ret_i hR h dX12_saw_25 trivial
-- X12_forget (0, 0)
theorem iX12_forget_X12 : ∀ w ∈ wsX120, w ∈ wsX12_forget := fun _ h => List.mem_cons_of_mem _ (List.mem_append_right _ h)
theorem fX12_forget_157 : Cond.fieldLink RX12 157 "SlopeCoinsModel" "seenMany" "I" ∈ wsX12_forget := by decide +kernel
set_option maxRecDepth 100000 in
set_option maxHeartbeats 4000000 in
theorem ctX12_forget {l : Launch} {D : va_G} {cI cZ : ClassId} {ad : Nat → Nat} {σ : St} {res : (Int32 × St)} (h : mX12_forget σ = some res) : Ci l yX12_forget wsX12_forget 0 0 D vwCl (tysM cI cZ) nwM (mkM cI cZ ad) ad 17 [.ref (ad 0)] σ res := by
  refine c_int (cc := cX12_forget) (maxL := 2) (by decide) rfl (Nat.le_of_ble_eq_true rfl) fun a b hn K hR => ?_
  unfold mX12_forget at h
  have K : KS (GM l 0 0 D cI cZ ad a b (w_A ad 17)) cX12_forget RX12 wsX12_forget (some .int) := K
  have hn : x_n (GM l 0 0 D cI cZ ad a b (w_A ad 17)) = 2 := hn
  refine k_sub [0] rfl ?_
  refine k_aload_n K dX12_forget_0 0 rfl ?_
  refine k_get K 0 12 15 iX12_forget_X12 (Nat.le_of_ble_eq_true rfl) ((mM_0 cI cZ ad) _) rfl (by decide) fX12_forget_157 rfl dX12_forget_1 ?_
  have h := lt_some h
  refine k_istore_n (lv' := [(1, _), (0, _)]) K dX12_forget_4 (by rw [hn]; decide) rfl ?_
  refine k_aload_n K dX12_forget_5 1 rfl ?_
  refine k_iconst (x := 0) K dX12_forget_6 (by decide) ?_
  have h := lt_some h
  refine k_putI K 0 12 15 tyX12 tyX12_ok nmX12 iX12_forget_X12 (Nat.le_of_ble_eq_true rfl) ((mM_0 cI cZ ad) _) rfl (by decide) fX12_forget_157 rfl (by decide +kernel) (Nat.le_of_ble_eq_true rfl) (pM_0_15 cI cZ ad _ _) dX12_forget_7 ?_
  refine k_iload_n K dX12_forget_10 0 rfl ?_
  exact ret_i hR h dX12_forget_11 trivial
-- X12_moved (8, 186)
theorem iX12_moved_X12 : ∀ w ∈ wsX120, w ∈ wsX12_moved := fun _ h => List.mem_cons_of_mem _ (List.mem_append_right _ h)
theorem fX12_moved_7 : Cond.fieldLink RX12 7 "SlopeCoinsModel" "row" "[I" ∈ wsX12_moved := by decide +kernel
set_option maxRecDepth 100000 in
set_option maxHeartbeats 4000000 in
theorem wX12_moved_160 {l : Launch} {D : va_G} {cI cZ : ClassId} {ad : Nat → Nat} {a : Program × Env × State × MethodId} {b : Array Value × List Frame × Method × Code × (State → Prop) × Nat} {A : Nat → Prop} (K : KS (GM l 8 186 D cI cZ ad a b A) cX12_moved RX12 wsX12_moved (some .int)) (hn : x_n (GM l 8 186 D cI cZ ad a b A) = 9) {res : (Int32 × St)} (hR : HRi (GM l 8 186 D cI cZ ad a b A) cX12_moved tb res) : ∀ (v1 : Int32), ∀ (v2 : Int32), ∀ (v3 : Int32), ∀ (σ : St), mX12_moved_160 v1 v2 v3 σ = some res → Wk (GM l 8 186 D cI cZ ad a b A) 160 [(1, .int v1), (2, .int v2), (3, .int v3)] [] σ := by
  intro v1 v2 v3 σ h
  unfold mX12_moved_160 at h
  refine k_iload_n K dX12_moved_160 0 rfl ?_
  refine k_if_ne (tgt := 168) K dX12_moved_161 (by decide) (fun q => ?_) (fun q => ?_)
  · have h := if_f q h
    refine k_iload_n K dX12_moved_168 2 rfl ?_
    exact ret_i hR h dX12_moved_169 trivial
  · have h := if_t q h
    refine k_iload_n K dX12_moved_164 1 rfl ?_
    refine k_goto (tgt := 169) K dX12_moved_165 (by decide) ?_
    exact ret_i hR h dX12_moved_169 trivial
set_option maxRecDepth 100000 in
set_option maxHeartbeats 4000000 in
theorem wX12_moved_154 {l : Launch} {D : va_G} {cI cZ : ClassId} {ad : Nat → Nat} {a : Program × Env × State × MethodId} {b : Array Value × List Frame × Method × Code × (State → Prop) × Nat} {A : Nat → Prop} {k160 : Int32 → Int32 → Int32 → St → Option (Int32 × St)} {rc : Int32 → Int32 → Int32 → Int32 → St → Option (Int32 × St)} (K : KS (GM l 8 186 D cI cZ ad a b A) cX12_moved RX12 wsX12_moved (some .int)) (hn : x_n (GM l 8 186 D cI cZ ad a b A) = 9) {res : (Int32 × St)} (hR : HRi (GM l 8 186 D cI cZ ad a b A) cX12_moved tb res) (hk160 : ∀ (v1 : Int32) (v2 : Int32) (v3 : Int32) (σ : St), k160 v1 v2 v3 σ = some res → Wk (GM l 8 186 D cI cZ ad a b A) 160 [(1, .int v1), (2, .int v2), (3, .int v3)] [] σ) (hrc : ∀ (v1 : Int32) (v2 : Int32) (v3 : Int32) (v4 : Int32) (σ : St), rc v1 v2 v3 v4 σ = some res → Wk (GM l 8 186 D cI cZ ad a b A) 20 [(0, .ref (ad 0)), (1, .int v1), (2, .int v2), (3, .int v3), (4, .int v4)] [] σ) : ∀ (v1 : Int32), ∀ (v2 : Int32), ∀ (v3 : Int32), ∀ (v4 : Int32), ∀ (σ : St), mX12_moved_154 k160 rc v1 v2 v3 v4 σ = some res → Wk (GM l 8 186 D cI cZ ad a b A) 154 [(0, .ref (ad 0)), (1, .int v1), (2, .int v2), (3, .int v3), (4, .int v4)] [] σ := by
  intro v1 v2 v3 v4 σ h
  unfold mX12_moved_154 at h
  have h := lt_some h
  refine k_iinc (lv' := [(4, _), (0, _), (1, _), (2, _), (3, _)]) K dX12_moved_154 4 rfl (v := _ + 1) (by rfl) (by rw [hn]; decide) rfl ?_
  refine k_goto (tgt := 20) K dX12_moved_157 (by decide) ?_
  exact k_sub [1, 2, 3, 4, 0] rfl (hrc _ _ _ _ _ h)
set_option maxRecDepth 100000 in
set_option maxHeartbeats 4000000 in
theorem wX12_moved_146 {l : Launch} {D : va_G} {cI cZ : ClassId} {ad : Nat → Nat} {a : Program × Env × State × MethodId} {b : Array Value × List Frame × Method × Code × (State → Prop) × Nat} {A : Nat → Prop} {k154 : Int32 → Int32 → Int32 → Int32 → St → Option (Int32 × St)} {rc : Int32 → Int32 → Int32 → Int32 → Int32 → Int32 → St → Option (Int32 × St)} (K : KS (GM l 8 186 D cI cZ ad a b A) cX12_moved RX12 wsX12_moved (some .int)) (hn : x_n (GM l 8 186 D cI cZ ad a b A) = 9) {res : (Int32 × St)} (hR : HRi (GM l 8 186 D cI cZ ad a b A) cX12_moved tb res) (hk154 : ∀ (v1 : Int32) (v2 : Int32) (v3 : Int32) (v4 : Int32) (σ : St), k154 v1 v2 v3 v4 σ = some res → Wk (GM l 8 186 D cI cZ ad a b A) 154 [(0, .ref (ad 0)), (1, .int v1), (2, .int v2), (3, .int v3), (4, .int v4)] [] σ) (hrc : ∀ (v1 : Int32) (v2 : Int32) (v3 : Int32) (v4 : Int32) (v5 : Int32) (v6 : Int32) (σ : St), rc v1 v2 v3 v4 v5 v6 σ = some res → Wk (GM l 8 186 D cI cZ ad a b A) 43 [(0, .ref (ad 0)), (1, .int v1), (2, .int v2), (3, .int v3), (4, .int v4), (5, .int v5), (6, .int v6)] [] σ) : ∀ (v1 : Int32), ∀ (v3 : Int32), ∀ (v4 : Int32), ∀ (v5 : Int32), ∀ (v6 : Int32), ∀ (t0 : Int32), ∀ (t1 : Int32), ∀ (σ : St), mX12_moved_146 k154 rc v1 v3 v4 v5 v6 t0 t1 σ = some res → Wk (GM l 8 186 D cI cZ ad a b A) 146 [(0, .ref (ad 0)), (1, .int v1), (3, .int v3), (4, .int v4), (5, .int v5), (6, .int v6)] [.int t0, .int t1] σ := by
  intro v1 v3 v4 v5 v6 t0 t1 σ h
  unfold mX12_moved_146 at h
  refine k_iadd K dX12_moved_146 ?_
  have h := lt_some h
  refine k_istore_n (lv' := [(2, _), (0, _), (1, _), (3, _), (4, _), (5, _), (6, _)]) K dX12_moved_147 (by rw [hn]; decide) rfl ?_
  have h := lt_some h
  refine k_iinc (lv' := [(6, _), (2, _), (0, _), (1, _), (3, _), (4, _), (5, _)]) K dX12_moved_148 6 rfl (v := _ + 1) (by rfl) (by rw [hn]; decide) rfl ?_
  refine k_goto (tgt := 43) K dX12_moved_151 (by decide) ?_
  exact k_sub [2, 3, 1, 4, 5, 6, 0] rfl (hrc _ _ _ _ _ _ _ h)
set_option maxRecDepth 100000 in
set_option maxHeartbeats 4000000 in
theorem wX12_moved_134 {l : Launch} {D : va_G} {cI cZ : ClassId} {ad : Nat → Nat} {a : Program × Env × State × MethodId} {b : Array Value × List Frame × Method × Code × (State → Prop) × Nat} {A : Nat → Prop} {k154 : Int32 → Int32 → Int32 → Int32 → St → Option (Int32 × St)} {rc : Int32 → Int32 → Int32 → Int32 → Int32 → Int32 → St → Option (Int32 × St)} (K : KS (GM l 8 186 D cI cZ ad a b A) cX12_moved RX12 wsX12_moved (some .int)) (hn : x_n (GM l 8 186 D cI cZ ad a b A) = 9) {res : (Int32 × St)} (hR : HRi (GM l 8 186 D cI cZ ad a b A) cX12_moved tb res) (hk154 : ∀ (v1 : Int32) (v2 : Int32) (v3 : Int32) (v4 : Int32) (σ : St), k154 v1 v2 v3 v4 σ = some res → Wk (GM l 8 186 D cI cZ ad a b A) 154 [(0, .ref (ad 0)), (1, .int v1), (2, .int v2), (3, .int v3), (4, .int v4)] [] σ) (hrc : ∀ (v1 : Int32) (v2 : Int32) (v3 : Int32) (v4 : Int32) (v5 : Int32) (v6 : Int32) (σ : St), rc v1 v2 v3 v4 v5 v6 σ = some res → Wk (GM l 8 186 D cI cZ ad a b A) 43 [(0, .ref (ad 0)), (1, .int v1), (2, .int v2), (3, .int v3), (4, .int v4), (5, .int v5), (6, .int v6)] [] σ) : ∀ (v1 : Int32), ∀ (v2 : Int32), ∀ (v4 : Int32), ∀ (v5 : Int32), ∀ (v6 : Int32), ∀ (v8 : Int32), ∀ (t0 : Int32), ∀ (σ : St), mX12_moved_134 k154 rc v1 v2 v4 v5 v6 v8 t0 σ = some res → Wk (GM l 8 186 D cI cZ ad a b A) 134 [(0, .ref (ad 0)), (1, .int v1), (2, .int v2), (4, .int v4), (5, .int v5), (6, .int v6), (8, .int v8)] [.int t0] σ := by
  intro v1 v2 v4 v5 v6 v8 t0 σ h
  unfold mX12_moved_134 at h
  refine k_istore_n (lv' := [(3, _), (0, _), (1, _), (2, _), (4, _), (5, _), (6, _), (8, _)]) K dX12_moved_134 (by rw [hn]; decide) rfl ?_
  refine k_iload_n K dX12_moved_135 3 rfl ?_
  refine k_iload K dX12_moved_136 7 rfl ?_
  refine k_if_eq (tgt := 145) K dX12_moved_138 (by decide) (fun q => ?_) (fun q => ?_)
  · have h := if_t q h
    refine k_iconst (x := 0) K dX12_moved_145 (by decide) ?_
    exact k_sub [1, 2, 0, 4, 5, 6] rfl (wX12_moved_146 K hn hR hk154 hrc _ _ _ _ _ _ _ _ h)
  · have h := if_f q h
    refine k_iconst (x := 1) K dX12_moved_141 (by decide) ?_
    refine k_goto (tgt := 146) K dX12_moved_142 (by decide) ?_
    exact k_sub [1, 2, 0, 4, 5, 6] rfl (wX12_moved_146 K hn hR hk154 hrc _ _ _ _ _ _ _ _ h)
set_option maxRecDepth 100000 in
set_option maxHeartbeats 4000000 in
theorem wX12_moved_133 {l : Launch} {D : va_G} {cI cZ : ClassId} {ad : Nat → Nat} {a : Program × Env × State × MethodId} {b : Array Value × List Frame × Method × Code × (State → Prop) × Nat} {A : Nat → Prop} {k154 : Int32 → Int32 → Int32 → Int32 → St → Option (Int32 × St)} {rc : Int32 → Int32 → Int32 → Int32 → Int32 → Int32 → St → Option (Int32 × St)} (K : KS (GM l 8 186 D cI cZ ad a b A) cX12_moved RX12 wsX12_moved (some .int)) (hn : x_n (GM l 8 186 D cI cZ ad a b A) = 9) {res : (Int32 × St)} (hR : HRi (GM l 8 186 D cI cZ ad a b A) cX12_moved tb res) (hk154 : ∀ (v1 : Int32) (v2 : Int32) (v3 : Int32) (v4 : Int32) (σ : St), k154 v1 v2 v3 v4 σ = some res → Wk (GM l 8 186 D cI cZ ad a b A) 154 [(0, .ref (ad 0)), (1, .int v1), (2, .int v2), (3, .int v3), (4, .int v4)] [] σ) (hrc : ∀ (v1 : Int32) (v2 : Int32) (v3 : Int32) (v4 : Int32) (v5 : Int32) (v6 : Int32) (σ : St), rc v1 v2 v3 v4 v5 v6 σ = some res → Wk (GM l 8 186 D cI cZ ad a b A) 43 [(0, .ref (ad 0)), (1, .int v1), (2, .int v2), (3, .int v3), (4, .int v4), (5, .int v5), (6, .int v6)] [] σ) : ∀ (v1 : Int32), ∀ (v2 : Int32), ∀ (v3 : Int32), ∀ (v4 : Int32), ∀ (v5 : Int32), ∀ (v6 : Int32), ∀ (v8 : Int32), ∀ (σ : St), mX12_moved_133 k154 rc v1 v2 v3 v4 v5 v6 v8 σ = some res → Wk (GM l 8 186 D cI cZ ad a b A) 133 [(0, .ref (ad 0)), (1, .int v1), (2, .int v2), (3, .int v3), (4, .int v4), (5, .int v5), (6, .int v6), (8, .int v8)] [] σ := by
  intro v1 v2 v3 v4 v5 v6 v8 σ h
  unfold mX12_moved_133 at h
  refine k_iload_n K dX12_moved_133 3 rfl ?_
  exact k_sub [0, 1, 2, 4, 5, 6, 7] rfl (wX12_moved_134 K hn hR hk154 hrc _ _ _ _ _ _ _ _ h)
set_option maxRecDepth 100000 in
set_option maxHeartbeats 4000000 in
theorem wX12_moved_96 {l : Launch} {D : va_G} {cI cZ : ClassId} {ad : Nat → Nat} {a : Program × Env × State × MethodId} {b : Array Value × List Frame × Method × Code × (State → Prop) × Nat} {A : Nat → Prop} {k154 : Int32 → Int32 → Int32 → Int32 → St → Option (Int32 × St)} {rc : Int32 → Int32 → Int32 → Int32 → Int32 → Int32 → St → Option (Int32 × St)} (K : KS (GM l 8 186 D cI cZ ad a b A) cX12_moved RX12 wsX12_moved (some .int)) (hn : x_n (GM l 8 186 D cI cZ ad a b A) = 9) {res : (Int32 × St)} (hR : HRi (GM l 8 186 D cI cZ ad a b A) cX12_moved tb res) (hk154 : ∀ (v1 : Int32) (v2 : Int32) (v3 : Int32) (v4 : Int32) (σ : St), k154 v1 v2 v3 v4 σ = some res → Wk (GM l 8 186 D cI cZ ad a b A) 154 [(0, .ref (ad 0)), (1, .int v1), (2, .int v2), (3, .int v3), (4, .int v4)] [] σ) (hrc : ∀ (v1 : Int32) (v2 : Int32) (v3 : Int32) (v4 : Int32) (v5 : Int32) (v6 : Int32) (σ : St), rc v1 v2 v3 v4 v5 v6 σ = some res → Wk (GM l 8 186 D cI cZ ad a b A) 43 [(0, .ref (ad 0)), (1, .int v1), (2, .int v2), (3, .int v3), (4, .int v4), (5, .int v5), (6, .int v6)] [] σ) : ∀ (v1 : Int32), ∀ (v2 : Int32), ∀ (v3 : Int32), ∀ (v4 : Int32), ∀ (v5 : Int32), ∀ (v6 : Int32), ∀ (t0 : Int32), ∀ (σ : St), mX12_moved_96 k154 rc v1 v2 v3 v4 v5 v6 t0 σ = some res → Wk (GM l 8 186 D cI cZ ad a b A) 96 [(0, .ref (ad 0)), (1, .int v1), (2, .int v2), (3, .int v3), (4, .int v4), (5, .int v5), (6, .int v6)] [.int t0] σ := by
  intro v1 v2 v3 v4 v5 v6 t0 σ h
  unfold mX12_moved_96 at h
  refine k_istore (lv' := [(8, _), (0, _), (1, _), (2, _), (3, _), (4, _), (5, _), (6, _)]) K dX12_moved_96 (by rw [hn]; decide) rfl ?_
  refine k_aload_n K dX12_moved_98 1 rfl ?_
  refine k_get K 0 12 0 iX12_moved_X12 (Nat.le_of_ble_eq_true rfl) ((mM_0 cI cZ ad) _) rfl (by decide) fX12_moved_7 rfl dX12_moved_99 ?_
  refine k_iconst (x := 1) K dX12_moved_102 (by decide) ?_
  refine k_iload K dX12_moved_103 5 rfl ?_
  refine k_iadd K dX12_moved_105 ?_
  refine k_iload K dX12_moved_106 6 rfl ?_
  obtain ⟨g16, h⟩ := gd_some h
  have h := lt_some h
  refine k_ist K 1 0 (Nat.le_of_ble_eq_true rfl) (mM_1 cI cZ ad) rfl g16 dX12_moved_108 ?_
  refine k_iload K dX12_moved_109 0 rfl ?_
  refine k_if_eq (tgt := 133) K dX12_moved_111 (by decide) (fun q => ?_) (fun q => ?_)
  · have h := if_t q h
    exact k_sub [1, 2, 3, 4, 5, 6, 7, 0] rfl (wX12_moved_133 K hn hR hk154 hrc _ _ _ _ _ _ _ _ h)
  · have h := if_f q h
    refine k_iload_n K dX12_moved_114 3 rfl ?_
    refine k_if_ne (tgt := 133) K dX12_moved_115 (by decide) (fun q => ?_) (fun q => ?_)
    · have h := if_f q h
      exact k_sub [1, 2, 3, 4, 5, 6, 7, 0] rfl (wX12_moved_133 K hn hR hk154 hrc _ _ _ _ _ _ _ _ h)
    · have h := if_t q h
      refine k_bipush (x := 10) K dX12_moved_118 (by decide) ?_
      refine k_aload_n K dX12_moved_120 1 rfl ?_
      refine k_iload K dX12_moved_121 5 rfl ?_
      obtain ⟨⟨r20, s21⟩, e22, h⟩ := bd_some h
      dsimp only at h
      refine k_callVi K 0 12 (Nat.le_of_ble_eq_true rfl) ((mM_0 cI cZ ad) _) rfl (ctX12_pairOf e22) (cwV 1 K.ts gX12_moved_X12_pairOf rfl rfl rfl hVX12_pairOf ⟨Nat.le_of_ble_eq_true rfl, Nat.le_of_ble_eq_true rfl⟩) rfl rfl (Nat.le_of_ble_eq_true rfl) dX12_moved_123 ?_
      refine k_imul K dX12_moved_126 ?_
      refine k_iload K dX12_moved_127 7 rfl ?_
      refine k_iadd K dX12_moved_129 ?_
      refine k_goto (tgt := 134) K dX12_moved_130 (by decide) ?_
      exact k_sub [1, 2, 3, 5, 6, 7, 0] rfl (wX12_moved_134 K hn hR hk154 hrc _ _ _ _ _ _ _ _ h)
set_option maxRecDepth 100000 in
set_option maxHeartbeats 4000000 in
theorem wX12_moved_95 {l : Launch} {D : va_G} {cI cZ : ClassId} {ad : Nat → Nat} {a : Program × Env × State × MethodId} {b : Array Value × List Frame × Method × Code × (State → Prop) × Nat} {A : Nat → Prop} {k154 : Int32 → Int32 → Int32 → Int32 → St → Option (Int32 × St)} {rc : Int32 → Int32 → Int32 → Int32 → Int32 → Int32 → St → Option (Int32 × St)} (K : KS (GM l 8 186 D cI cZ ad a b A) cX12_moved RX12 wsX12_moved (some .int)) (hn : x_n (GM l 8 186 D cI cZ ad a b A) = 9) {res : (Int32 × St)} (hR : HRi (GM l 8 186 D cI cZ ad a b A) cX12_moved tb res) (hk154 : ∀ (v1 : Int32) (v2 : Int32) (v3 : Int32) (v4 : Int32) (σ : St), k154 v1 v2 v3 v4 σ = some res → Wk (GM l 8 186 D cI cZ ad a b A) 154 [(0, .ref (ad 0)), (1, .int v1), (2, .int v2), (3, .int v3), (4, .int v4)] [] σ) (hrc : ∀ (v1 : Int32) (v2 : Int32) (v3 : Int32) (v4 : Int32) (v5 : Int32) (v6 : Int32) (σ : St), rc v1 v2 v3 v4 v5 v6 σ = some res → Wk (GM l 8 186 D cI cZ ad a b A) 43 [(0, .ref (ad 0)), (1, .int v1), (2, .int v2), (3, .int v3), (4, .int v4), (5, .int v5), (6, .int v6)] [] σ) : ∀ (v1 : Int32), ∀ (v2 : Int32), ∀ (v3 : Int32), ∀ (v4 : Int32), ∀ (v5 : Int32), ∀ (v6 : Int32), ∀ (σ : St), mX12_moved_95 k154 rc v1 v2 v3 v4 v5 v6 σ = some res → Wk (GM l 8 186 D cI cZ ad a b A) 95 [(0, .ref (ad 0)), (1, .int v1), (2, .int v2), (3, .int v3), (4, .int v4), (5, .int v5), (6, .int v6)] [] σ := by
  intro v1 v2 v3 v4 v5 v6 σ h
  unfold mX12_moved_95 at h
  refine k_iconst (x := 0) K dX12_moved_95 (by decide) ?_
  exact k_sub [0, 1, 2, 3, 4, 5, 6] rfl (wX12_moved_96 K hn hR hk154 hrc _ _ _ _ _ _ _ _ h)
set_option maxRecDepth 100000 in
set_option maxHeartbeats 4000000 in
theorem wX12_moved_43 {l : Launch} {D : va_G} {cI cZ : ClassId} {ad : Nat → Nat} {a : Program × Env × State × MethodId} {b : Array Value × List Frame × Method × Code × (State → Prop) × Nat} {A : Nat → Prop} {k154 : Int32 → Int32 → Int32 → Int32 → St → Option (Int32 × St)} (K : KS (GM l 8 186 D cI cZ ad a b A) cX12_moved RX12 wsX12_moved (some .int)) (hn : x_n (GM l 8 186 D cI cZ ad a b A) = 9) {res : (Int32 × St)} (hR : HRi (GM l 8 186 D cI cZ ad a b A) cX12_moved tb res) (hk154 : ∀ (v1 : Int32) (v2 : Int32) (v3 : Int32) (v4 : Int32) (σ : St), k154 v1 v2 v3 v4 σ = some res → Wk (GM l 8 186 D cI cZ ad a b A) 154 [(0, .ref (ad 0)), (1, .int v1), (2, .int v2), (3, .int v3), (4, .int v4)] [] σ) : ∀ (n : Nat) (v1 : Int32) (v2 : Int32) (v3 : Int32) (v4 : Int32) (v5 : Int32) (v6 : Int32) (σ : St), mX12_moved_43 k154 n v1 v2 v3 v4 v5 v6 σ = some res → Wk (GM l 8 186 D cI cZ ad a b A) 43 [(0, .ref (ad 0)), (1, .int v1), (2, .int v2), (3, .int v3), (4, .int v4), (5, .int v5), (6, .int v6)] [] σ := by
  intro n
  induction n with
  | zero => intro v1 v2 v3 v4 v5 v6 σ h; cases h
  | succ n ih =>
    intro v1 v2 v3 v4 v5 v6 σ h
    unfold mX12_moved_43 at h
    refine k_iload K dX12_moved_43 6 rfl ?_
    refine k_iconst (x := 2) K dX12_moved_45 (by decide) ?_
    refine k_icmp_ge (tgt := 154) K dX12_moved_46 (by decide) (fun q => ?_) (fun q => ?_)
    · have h := if_f q h
      exact k_sub [0, 1, 2, 3, 4] rfl (hk154 _ _ _ _ _ h)
    · have h := if_t q h
      refine k_iload K dX12_moved_49 5 rfl ?_
      refine k_iconst (x := 2) K dX12_moved_51 (by decide) ?_
      refine k_iload K dX12_moved_52 6 rfl ?_
      refine k_imul K dX12_moved_54 ?_
      refine k_iadd K dX12_moved_55 ?_
      refine k_iconst (x := 1) K dX12_moved_56 (by decide) ?_
      refine k_isub K dX12_moved_57 ?_
      have h := lt_some h
      refine k_istore (lv' := [(7, _), (0, _), (1, _), (2, _), (3, _), (4, _), (5, _), (6, _)]) K dX12_moved_58 (by rw [hn]; decide) rfl ?_
      refine k_aload_n K dX12_moved_60 1 rfl ?_
      refine k_get K 0 12 0 iX12_moved_X12 (Nat.le_of_ble_eq_true rfl) ((mM_0 cI cZ ad) _) rfl (by decide) fX12_moved_7 rfl dX12_moved_61 ?_
      refine k_iconst (x := 1) K dX12_moved_64 (by decide) ?_
      refine k_iload K dX12_moved_65 5 rfl ?_
      refine k_iadd K dX12_moved_67 ?_
      refine k_iload K dX12_moved_68 0 rfl ?_
      obtain ⟨g11, h⟩ := gd_some h
      have h := lt_some h
      refine k_ist K 1 0 (Nat.le_of_ble_eq_true rfl) (mM_1 cI cZ ad) rfl g11 dX12_moved_70 ?_
      refine k_iload K dX12_moved_71 0 rfl ?_
      refine k_i2l K dX12_moved_73 ?_
      refine k_lconst (v := 0) K dX12_moved_74 (by decide) ?_
      refine k_ldc2 (v := 9) K (by decide +kernel) dX12_moved_75 ?_
      obtain ⟨⟨r13, s14⟩, e15, h⟩ := bd_some h
      dsimp only at h
      refine k_callSi K (ctX12_in e15) (va_cwS 3 K.ts gX12_moved_X12_in rfl rfl rfl hSX12_in ⟨Nat.le_of_ble_eq_true rfl, Nat.le_of_ble_eq_true rfl⟩) rfl rfl (Nat.le_of_ble_eq_true rfl) dX12_moved_78 ?_
      refine k_if_eq (tgt := 95) K dX12_moved_81 (by decide) (fun q => ?_) (fun q => ?_)
      · have h := if_t q h
        exact k_sub [1, 2, 3, 4, 5, 6, 7] rfl (wX12_moved_95 K hn hR hk154 ih _ _ _ _ _ _ _ h)
      · have h := if_f q h
        refine k_aload_n K dX12_moved_84 1 rfl ?_
        obtain ⟨⟨r23, s24⟩, e25, h⟩ := bd_some h
        dsimp only at h
        refine k_callVi K 0 12 (Nat.le_of_ble_eq_true rfl) ((mM_0 cI cZ ad) _) rfl (ctX12_isSo e25) (cwV 0 K.ts gX12_moved_X12_isSo rfl rfl rfl hVX12_isSo ⟨Nat.le_of_ble_eq_true rfl, Nat.le_of_ble_eq_true rfl⟩) rfl rfl (Nat.le_of_ble_eq_true rfl) dX12_moved_85 ?_
        refine k_if_eq (tgt := 95) K dX12_moved_88 (by decide) (fun q => ?_) (fun q => ?_)
        · have h := if_t q h
          exact k_sub [1, 2, 3, 4, 5, 6, 7] rfl (wX12_moved_95 K hn hR hk154 ih _ _ _ _ _ _ _ h)
        · have h := if_f q h
          refine k_iconst (x := 1) K dX12_moved_91 (by decide) ?_
          refine k_goto (tgt := 96) K dX12_moved_92 (by decide) ?_
          exact k_sub [1, 2, 3, 4, 5, 6, 7] rfl (wX12_moved_96 K hn hR hk154 ih _ _ _ _ _ _ _ _ h)
set_option maxRecDepth 100000 in
set_option maxHeartbeats 4000000 in
theorem wX12_moved_20 {l : Launch} {D : va_G} {cI cZ : ClassId} {ad : Nat → Nat} {a : Program × Env × State × MethodId} {b : Array Value × List Frame × Method × Code × (State → Prop) × Nat} {A : Nat → Prop} {k160 : Int32 → Int32 → Int32 → St → Option (Int32 × St)} (K : KS (GM l 8 186 D cI cZ ad a b A) cX12_moved RX12 wsX12_moved (some .int)) (hn : x_n (GM l 8 186 D cI cZ ad a b A) = 9) {res : (Int32 × St)} (hR : HRi (GM l 8 186 D cI cZ ad a b A) cX12_moved tb res) (hk160 : ∀ (v1 : Int32) (v2 : Int32) (v3 : Int32) (σ : St), k160 v1 v2 v3 σ = some res → Wk (GM l 8 186 D cI cZ ad a b A) 160 [(1, .int v1), (2, .int v2), (3, .int v3)] [] σ) : ∀ (n : Nat) (v1 : Int32) (v2 : Int32) (v3 : Int32) (v4 : Int32) (σ : St), mX12_moved_20 k160 n v1 v2 v3 v4 σ = some res → Wk (GM l 8 186 D cI cZ ad a b A) 20 [(0, .ref (ad 0)), (1, .int v1), (2, .int v2), (3, .int v3), (4, .int v4)] [] σ := by
  intro n
  induction n with
  | zero => intro v1 v2 v3 v4 σ h; cases h
  | succ n ih =>
    intro v1 v2 v3 v4 σ h
    unfold mX12_moved_20 at h
    refine k_iload K dX12_moved_20 4 rfl ?_
    refine k_aload_n K dX12_moved_22 0 rfl ?_
    obtain ⟨⟨r4, s5⟩, e6, h⟩ := bd_some h
    dsimp only at h
    refine k_callVi K 0 12 (Nat.le_of_ble_eq_true rfl) ((mM_0 cI cZ ad) _) rfl (ctX12_cells e6) (cwV 0 K.ts gX12_moved_X12_cells rfl rfl rfl hVX12_cells ⟨Nat.le_of_ble_eq_true rfl, Nat.le_of_ble_eq_true rfl⟩) rfl rfl (Nat.le_of_ble_eq_true rfl) dX12_moved_23 ?_
    refine k_icmp_ge (tgt := 160) K dX12_moved_26 (by decide) (fun q => ?_) (fun q => ?_)
    · have h := if_f q h
      exact k_sub [1, 2, 3] rfl (hk160 _ _ _ _ h)
    · have h := if_t q h
      refine k_aload_n K dX12_moved_29 0 rfl ?_
      refine k_get K 0 12 0 iX12_moved_X12 (Nat.le_of_ble_eq_true rfl) ((mM_0 cI cZ ad) _) rfl (by decide) fX12_moved_7 rfl dX12_moved_30 ?_
      refine k_iconst (x := 1) K dX12_moved_33 (by decide) ?_
      refine k_iload K dX12_moved_34 4 rfl ?_
      refine k_iadd K dX12_moved_36 ?_
      obtain ⟨g7, h⟩ := gd_some h
      refine k_ild K 1 0 (Nat.le_of_ble_eq_true rfl) ((mM_1 cI cZ ad) _) rfl g7 dX12_moved_37 ?_
      have h := lt_some h
      refine k_istore (lv' := [(5, _), (0, _), (1, _), (2, _), (3, _), (4, _)]) K dX12_moved_38 (by rw [hn]; decide) rfl ?_
      refine k_iconst (x := 0) K dX12_moved_40 (by decide) ?_
      refine k_istore (lv' := [(6, _), (5, _), (0, _), (1, _), (2, _), (3, _), (4, _)]) K dX12_moved_41 (by rw [hn]; decide) rfl ?_
      exact k_sub [2, 3, 4, 5, 6, 1, 0] rfl (wX12_moved_43 K hn hR (fun v1 v2 v3 v4 σ h => wX12_moved_154 K hn hR hk160 ih v1 v2 v3 v4 σ h) FU _ _ _ _ _ _ _ h)
set_option maxRecDepth 100000 in
set_option maxHeartbeats 4000000 in
theorem ctX12_moved {l : Launch} {D : va_G} {cI cZ : ClassId} {ad : Nat → Nat} {v1 : Int32} {σ : St} {res : (Int32 × St)} (h : mX12_moved v1 σ = some res) : Ci l yX12_moved wsX12_moved 8 186 D vwCl (tysM cI cZ) nwM (mkM cI cZ ad) ad 17 [.ref (ad 0), .int v1] σ res := by
  refine c_int (cc := cX12_moved) (maxL := 9) (by decide) rfl (Nat.le_of_ble_eq_true rfl) fun a b hn K hR => ?_
  unfold mX12_moved at h
  have K : KS (GM l 8 186 D cI cZ ad a b (w_A ad 17)) cX12_moved RX12 wsX12_moved (some .int) := K
  have hn : x_n (GM l 8 186 D cI cZ ad a b (w_A ad 17)) = 9 := hn
  refine k_sub [0, 1] rfl ?_
  refine k_iload_n K dX12_moved_0 1 rfl ?_
  refine k_i2l K dX12_moved_1 ?_
  refine k_lconst (v := 0) K dX12_moved_2 (by decide) ?_
  refine k_lconst (v := 1) K dX12_moved_3 (by decide) ?_
  obtain ⟨⟨r1, s2⟩, e3, h⟩ := bd_some h
  dsimp only at h
  refine k_callSi K (ctX12_in e3) (va_cwS 3 K.ts gX12_moved_X12_in rfl rfl rfl hSX12_in ⟨Nat.le_of_ble_eq_true rfl, Nat.le_of_ble_eq_true rfl⟩) rfl rfl (Nat.le_of_ble_eq_true rfl) dX12_moved_4 ?_
  refine k_if_ne (tgt := 12) K dX12_moved_7 (by decide) (fun q => ?_) (fun q => ?_)
  · have h := if_f q h
    refine k_iconst (x := 0) K dX12_moved_12 (by decide) ?_
    refine k_istore_n (lv' := [(2, _), (0, _), (1, _)]) K dX12_moved_13 (by rw [hn]; decide) rfl ?_
    refine k_bipush (x := (-9)) K dX12_moved_14 (by decide) ?_
    refine k_istore_n (lv' := [(3, _), (2, _), (0, _), (1, _)]) K dX12_moved_16 (by rw [hn]; decide) rfl ?_
    refine k_iconst (x := 0) K dX12_moved_17 (by decide) ?_
    refine k_istore (lv' := [(4, _), (3, _), (2, _), (0, _), (1, _)]) K dX12_moved_18 (by rw [hn]; decide) rfl ?_
    exact k_sub [3, 4, 2, 1, 0] rfl (wX12_moved_20 K hn hR (fun v1 v2 v3 σ h => wX12_moved_160 K hn hR v1 v2 v3 σ h) FU _ _ _ _ _ h)
  · have h := if_t q h
    refine k_iconst (x := (-1)) K dX12_moved_10 (by decide) ?_
    exact ret_i hR h dX12_moved_11 trivial
-- X12_markOfCell (0, 0)
theorem iX12_markOfCell_X12 : ∀ w ∈ wsX120, w ∈ wsX12_markOfCell := fun _ h => List.mem_cons_of_mem _ (List.mem_append_right _ h)
theorem fX12_markOfCell_7 : Cond.fieldLink RX12 7 "SlopeCoinsModel" "row" "[I" ∈ wsX12_markOfCell := by decide +kernel
theorem fX12_markOfCell_291 : Cond.fieldLink RX12 291 "SlopeCoinsModel" "trace" "J" ∈ wsX12_markOfCell := by decide +kernel
set_option maxRecDepth 100000 in
set_option maxHeartbeats 4000000 in
theorem ctX12_markOfCell {l : Launch} {D : va_G} {cI cZ : ClassId} {ad : Nat → Nat} {v1 : Int32} {σ : St} {res : (Int32 × St)} (h : mX12_markOfCell v1 σ = some res) : Ci l yX12_markOfCell wsX12_markOfCell 0 0 D vwCl (tysM cI cZ) nwM (mkM cI cZ ad) ad 17 [.ref (ad 0), .int v1] σ res := by
  refine c_int (cc := cX12_markOfCell) (maxL := 2) (by decide) rfl (Nat.le_of_ble_eq_true rfl) fun a b hn K hR => ?_
  unfold mX12_markOfCell at h
  have K : KS (GM l 0 0 D cI cZ ad a b (w_A ad 17)) cX12_markOfCell RX12 wsX12_markOfCell (some .int) := K
  have hn : x_n (GM l 0 0 D cI cZ ad a b (w_A ad 17)) = 2 := hn
  refine k_sub [0, 1] rfl ?_
  refine k_aload_n K dX12_markOfCell_0 0 rfl ?_
  refine k_dup K dX12_markOfCell_1 rfl ?_
  refine k_get K 0 12 16 iX12_markOfCell_X12 (Nat.le_of_ble_eq_true rfl) ((mM_0 cI cZ ad) _) rfl (by decide) fX12_markOfCell_291 rfl dX12_markOfCell_2 ?_
  refine k_lconst (v := 1) K dX12_markOfCell_5 (by decide) ?_
  refine k_ladd K dX12_markOfCell_6 ?_
  have h := lt_some h
  refine k_putL K 0 12 16 tyX12 tyX12_ok nmX12 iX12_markOfCell_X12 (Nat.le_of_ble_eq_true rfl) ((mM_0 cI cZ ad) _) rfl (by decide) fX12_markOfCell_291 rfl (by decide +kernel) (Nat.le_of_ble_eq_true rfl) (put_longM cI cZ ad _ _) dX12_markOfCell_7 ?_
  refine k_aload_n K dX12_markOfCell_10 0 rfl ?_
  refine k_get K 0 12 0 iX12_markOfCell_X12 (Nat.le_of_ble_eq_true rfl) ((mM_0 cI cZ ad) _) rfl (by decide) fX12_markOfCell_7 rfl dX12_markOfCell_11 ?_
  refine k_iconst (x := 1) K dX12_markOfCell_14 (by decide) ?_
  refine k_iload_n K dX12_markOfCell_15 1 rfl ?_
  refine k_iadd K dX12_markOfCell_16 ?_
  obtain ⟨g2, h⟩ := gd_some h
  refine k_ild K 1 0 (Nat.le_of_ble_eq_true rfl) ((mM_1 cI cZ ad) _) rfl g2 dX12_markOfCell_17 ?_
  exact ret_i hR h dX12_markOfCell_18 trivial
-- X12_markOf (4, 88)
theorem iX12_markOf_X12 : ∀ w ∈ wsX120, w ∈ wsX12_markOf := fun _ h => List.mem_cons_of_mem _ (List.mem_append_right _ h)
theorem fX12_markOf_7 : Cond.fieldLink RX12 7 "SlopeCoinsModel" "row" "[I" ∈ wsX12_markOf := by decide +kernel
theorem fX12_markOf_23 : Cond.fieldLink RX12 23 "SlopeCoinsModel" "gratings" "[I" ∈ wsX12_markOf := by decide +kernel
theorem fX12_markOf_291 : Cond.fieldLink RX12 291 "SlopeCoinsModel" "trace" "J" ∈ wsX12_markOf := by decide +kernel
set_option maxRecDepth 100000 in
set_option maxHeartbeats 4000000 in
theorem ctX12_markOf {l : Launch} {D : va_G} {cI cZ : ClassId} {ad : Nat → Nat} {v1 : Int32} {v2 : Int32} {σ : St} {res : (Int32 × St)} (h : mX12_markOf v1 v2 σ = some res) : Ci l yX12_markOf wsX12_markOf 4 88 D vwCl (tysM cI cZ) nwM (mkM cI cZ ad) ad 17 [.ref (ad 0), .int v1, .int v2] σ res := by
  refine c_int (cc := cX12_markOf) (maxL := 3) (by decide) rfl (Nat.le_of_ble_eq_true rfl) fun a b hn K hR => ?_
  unfold mX12_markOf at h
  have K : KS (GM l 4 88 D cI cZ ad a b (w_A ad 17)) cX12_markOf RX12 wsX12_markOf (some .int) := K
  have hn : x_n (GM l 4 88 D cI cZ ad a b (w_A ad 17)) = 3 := hn
  refine k_sub [0, 1, 2] rfl ?_
  refine k_iload_n K dX12_markOf_0 1 rfl ?_
  refine k_case (y := 0) (fun q0 => ?_) (fun q0 => ?_)
  · have h := if_t q0 h
    refine k_tableIn (off := 35) (tgt := 36) K dX12_markOf_1 (by rw [q0]; decide) (by rw [q0]; decide) (by rw [q0]; rfl) (by decide) ?_
    refine k_aload_n K dX12_markOf_36 0 rfl ?_
    refine k_dup K dX12_markOf_37 rfl ?_
    refine k_get K 0 12 16 iX12_markOf_X12 (Nat.le_of_ble_eq_true rfl) ((mM_0 cI cZ ad) _) rfl (by decide) fX12_markOf_291 rfl dX12_markOf_38 ?_
    refine k_lconst (v := 1) K dX12_markOf_41 (by decide) ?_
    refine k_ladd K dX12_markOf_42 ?_
    have h := lt_some h
    refine k_putL K 0 12 16 tyX12 tyX12_ok nmX12 iX12_markOf_X12 (Nat.le_of_ble_eq_true rfl) ((mM_0 cI cZ ad) _) rfl (by decide) fX12_markOf_291 rfl (by decide +kernel) (Nat.le_of_ble_eq_true rfl) (put_longM cI cZ ad _ _) dX12_markOf_43 ?_
    refine k_aload_n K dX12_markOf_46 0 rfl ?_
    refine k_get K 0 12 0 iX12_markOf_X12 (Nat.le_of_ble_eq_true rfl) ((mM_0 cI cZ ad) _) rfl (by decide) fX12_markOf_7 rfl dX12_markOf_47 ?_
    refine k_iconst (x := 1) K dX12_markOf_50 (by decide) ?_
    refine k_iload_n K dX12_markOf_51 2 rfl ?_
    refine k_iadd K dX12_markOf_52 ?_
    obtain ⟨g2, h⟩ := gd_some h
    refine k_ild K 1 0 (Nat.le_of_ble_eq_true rfl) ((mM_1 cI cZ ad) _) rfl g2 dX12_markOf_53 ?_
    exact ret_i hR h dX12_markOf_54 trivial
  · have h := if_f q0 h
    refine k_case (y := 1) (fun q1 => ?_) (fun q1 => ?_)
    · have h := if_t q1 h
      refine k_tableIn (off := 54) (tgt := 55) K dX12_markOf_1 (by rw [q1]; decide) (by rw [q1]; decide) (by rw [q1]; rfl) (by decide) ?_
      refine k_aload_n K dX12_markOf_55 0 rfl ?_
      refine k_dup K dX12_markOf_56 rfl ?_
      refine k_get K 0 12 16 iX12_markOf_X12 (Nat.le_of_ble_eq_true rfl) ((mM_0 cI cZ ad) _) rfl (by decide) fX12_markOf_291 rfl dX12_markOf_57 ?_
      refine k_ldc2 (v := 10) K (by decide +kernel) dX12_markOf_60 ?_
      refine k_ladd K dX12_markOf_63 ?_
      have h := lt_some h
      refine k_putL K 0 12 16 tyX12 tyX12_ok nmX12 iX12_markOf_X12 (Nat.le_of_ble_eq_true rfl) ((mM_0 cI cZ ad) _) rfl (by decide) fX12_markOf_291 rfl (by decide +kernel) (Nat.le_of_ble_eq_true rfl) (put_longM cI cZ ad _ _) dX12_markOf_64 ?_
      refine k_aload_n K dX12_markOf_67 0 rfl ?_
      refine k_iload_n K dX12_markOf_68 2 rfl ?_
      obtain ⟨⟨r4, s5⟩, e6, h⟩ := bd_some h
      dsimp only at h
      refine k_callVi K 0 12 (Nat.le_of_ble_eq_true rfl) ((mM_0 cI cZ ad) _) rfl (ctX12_markOfCell e6) (cwV 1 K.ts gX12_markOf_X12_markOfCell rfl rfl rfl hVX12_markOfCell ⟨Nat.le_of_ble_eq_true rfl, Nat.le_of_ble_eq_true rfl⟩) rfl rfl (Nat.le_of_ble_eq_true rfl) dX12_markOf_69 ?_
      refine k_aload_n K dX12_markOf_72 0 rfl ?_
      refine k_iload_n K dX12_markOf_73 2 rfl ?_
      obtain ⟨⟨r7, s8⟩, e9, h⟩ := bd_some h
      dsimp only at h
      refine k_callVi K 0 12 (Nat.le_of_ble_eq_true rfl) ((mM_0 cI cZ ad) _) rfl (ctX12_shutWays e9) (cwV 1 K.ts gX12_markOf_X12_shutWays rfl rfl rfl hVX12_shutWays ⟨Nat.le_of_ble_eq_true rfl, Nat.le_of_ble_eq_true rfl⟩) rfl rfl (Nat.le_of_ble_eq_true rfl) dX12_markOf_74 ?_
      obtain ⟨⟨r10, s11⟩, e12, h⟩ := bd_some h
      dsimp only at h
      refine k_callSi K (ctX12_bits e12) (va_cwS 1 K.ts gX12_markOf_X12_bits rfl rfl rfl hSX12_bits ⟨Nat.le_of_ble_eq_true rfl, Nat.le_of_ble_eq_true rfl⟩) rfl rfl (Nat.le_of_ble_eq_true rfl) dX12_markOf_77 ?_
      refine k_iadd K dX12_markOf_80 ?_
      exact ret_i hR h dX12_markOf_81 trivial
    · have h := if_f q1 h
      refine k_case (y := 2) (fun q2 => ?_) (fun q2 => ?_)
      · have h := if_t q2 h
        refine k_tableIn (off := 81) (tgt := 82) K dX12_markOf_1 (by rw [q2]; decide) (by rw [q2]; decide) (by rw [q2]; rfl) (by decide) ?_
        refine k_aload_n K dX12_markOf_82 0 rfl ?_
        refine k_dup K dX12_markOf_83 rfl ?_
        refine k_get K 0 12 16 iX12_markOf_X12 (Nat.le_of_ble_eq_true rfl) ((mM_0 cI cZ ad) _) rfl (by decide) fX12_markOf_291 rfl dX12_markOf_84 ?_
        refine k_ldc2 (v := 100) K (by decide +kernel) dX12_markOf_87 ?_
        refine k_ladd K dX12_markOf_90 ?_
        have h := lt_some h
        refine k_putL K 0 12 16 tyX12 tyX12_ok nmX12 iX12_markOf_X12 (Nat.le_of_ble_eq_true rfl) ((mM_0 cI cZ ad) _) rfl (by decide) fX12_markOf_291 rfl (by decide +kernel) (Nat.le_of_ble_eq_true rfl) (put_longM cI cZ ad _ _) dX12_markOf_91 ?_
        refine k_aload_n K dX12_markOf_94 0 rfl ?_
        refine k_iload_n K dX12_markOf_95 2 rfl ?_
        obtain ⟨⟨r14, s15⟩, e16, h⟩ := bd_some h
        dsimp only at h
        refine k_callVi K 0 12 (Nat.le_of_ble_eq_true rfl) ((mM_0 cI cZ ad) _) rfl (ctX12_markOfCell e16) (cwV 1 K.ts gX12_markOf_X12_markOfCell rfl rfl rfl hVX12_markOfCell ⟨Nat.le_of_ble_eq_true rfl, Nat.le_of_ble_eq_true rfl⟩) rfl rfl (Nat.le_of_ble_eq_true rfl) dX12_markOf_96 ?_
        refine k_aload_n K dX12_markOf_99 0 rfl ?_
        refine k_iload_n K dX12_markOf_100 2 rfl ?_
        obtain ⟨⟨r17, s18⟩, e19, h⟩ := bd_some h
        dsimp only at h
        refine k_callVi K 0 12 (Nat.le_of_ble_eq_true rfl) ((mM_0 cI cZ ad) _) rfl (ctX12_liesOn e19) (cwV 1 K.ts gX12_markOf_X12_liesOn rfl rfl rfl hVX12_liesOn ⟨Nat.le_of_ble_eq_true rfl, Nat.le_of_ble_eq_true rfl⟩) rfl rfl (Nat.le_of_ble_eq_true rfl) dX12_markOf_101 ?_
        refine k_isub K dX12_markOf_104 ?_
        exact ret_i hR h dX12_markOf_105 trivial
      · have h := if_f q2 h
        refine k_case (y := 3) (fun q3 => ?_) (fun q3 => ?_)
        · have h := if_t q3 h
          refine k_tableIn (off := 105) (tgt := 106) K dX12_markOf_1 (by rw [q3]; decide) (by rw [q3]; decide) (by rw [q3]; rfl) (by decide) ?_
          refine k_aload_n K dX12_markOf_106 0 rfl ?_
          refine k_dup K dX12_markOf_107 rfl ?_
          refine k_get K 0 12 16 iX12_markOf_X12 (Nat.le_of_ble_eq_true rfl) ((mM_0 cI cZ ad) _) rfl (by decide) fX12_markOf_291 rfl dX12_markOf_108 ?_
          refine k_ldc2 (v := 1010) K (by decide +kernel) dX12_markOf_111 ?_
          refine k_ladd K dX12_markOf_114 ?_
          have h := lt_some h
          refine k_putL K 0 12 16 tyX12 tyX12_ok nmX12 iX12_markOf_X12 (Nat.le_of_ble_eq_true rfl) ((mM_0 cI cZ ad) _) rfl (by decide) fX12_markOf_291 rfl (by decide +kernel) (Nat.le_of_ble_eq_true rfl) (put_longM cI cZ ad _ _) dX12_markOf_115 ?_
          refine k_iconst (x := 2) K dX12_markOf_118 (by decide) ?_
          refine k_aload_n K dX12_markOf_119 0 rfl ?_
          refine k_iload_n K dX12_markOf_120 2 rfl ?_
          obtain ⟨⟨r21, s22⟩, e23, h⟩ := bd_some h
          dsimp only at h
          refine k_callVi K 0 12 (Nat.le_of_ble_eq_true rfl) ((mM_0 cI cZ ad) _) rfl (ctX12_markOfCell e23) (cwV 1 K.ts gX12_markOf_X12_markOfCell rfl rfl rfl hVX12_markOfCell ⟨Nat.le_of_ble_eq_true rfl, Nat.le_of_ble_eq_true rfl⟩) rfl rfl (Nat.le_of_ble_eq_true rfl) dX12_markOf_121 ?_
          refine k_aload_n K dX12_markOf_124 0 rfl ?_
          refine k_iload_n K dX12_markOf_125 2 rfl ?_
          obtain ⟨⟨r24, s25⟩, e26, h⟩ := bd_some h
          dsimp only at h
          refine k_callVi K 0 12 (Nat.le_of_ble_eq_true rfl) ((mM_0 cI cZ ad) _) rfl (ctX12_shutWays e26) (cwV 1 K.ts gX12_markOf_X12_shutWays rfl rfl rfl hVX12_shutWays ⟨Nat.le_of_ble_eq_true rfl, Nat.le_of_ble_eq_true rfl⟩) rfl rfl (Nat.le_of_ble_eq_true rfl) dX12_markOf_126 ?_
          obtain ⟨⟨r27, s28⟩, e29, h⟩ := bd_some h
          dsimp only at h
          refine k_callSi K (ctX12_bits e29) (va_cwS 1 K.ts gX12_markOf_X12_bits rfl rfl rfl hSX12_bits ⟨Nat.le_of_ble_eq_true rfl, Nat.le_of_ble_eq_true rfl⟩) rfl rfl (Nat.le_of_ble_eq_true rfl) dX12_markOf_129 ?_
          refine k_iadd K dX12_markOf_132 ?_
          refine k_imul K dX12_markOf_133 ?_
          exact ret_i hR h dX12_markOf_134 trivial
        · have h := if_f q3 h
          refine k_case (y := 4) (fun q4 => ?_) (fun q4 => ?_)
          · have h := if_t q4 h
            refine k_tableIn (off := 134) (tgt := 135) K dX12_markOf_1 (by rw [q4]; decide) (by rw [q4]; decide) (by rw [q4]; rfl) (by decide) ?_
            refine k_aload_n K dX12_markOf_135 0 rfl ?_
            refine k_dup K dX12_markOf_136 rfl ?_
            refine k_get K 0 12 16 iX12_markOf_X12 (Nat.le_of_ble_eq_true rfl) ((mM_0 cI cZ ad) _) rfl (by decide) fX12_markOf_291 rfl dX12_markOf_137 ?_
            refine k_ldc2 (v := 10100) K (by decide +kernel) dX12_markOf_140 ?_
            refine k_ladd K dX12_markOf_143 ?_
            have h := lt_some h
            refine k_putL K 0 12 16 tyX12 tyX12_ok nmX12 iX12_markOf_X12 (Nat.le_of_ble_eq_true rfl) ((mM_0 cI cZ ad) _) rfl (by decide) fX12_markOf_291 rfl (by decide +kernel) (Nat.le_of_ble_eq_true rfl) (put_longM cI cZ ad _ _) dX12_markOf_144 ?_
            refine k_aload_n K dX12_markOf_147 0 rfl ?_
            refine k_iload_n K dX12_markOf_148 2 rfl ?_
            obtain ⟨⟨r31, s32⟩, e33, h⟩ := bd_some h
            dsimp only at h
            refine k_callVi K 0 12 (Nat.le_of_ble_eq_true rfl) ((mM_0 cI cZ ad) _) rfl (ctX12_markOfCell e33) (cwV 1 K.ts gX12_markOf_X12_markOfCell rfl rfl rfl hVX12_markOfCell ⟨Nat.le_of_ble_eq_true rfl, Nat.le_of_ble_eq_true rfl⟩) rfl rfl (Nat.le_of_ble_eq_true rfl) dX12_markOf_149 ?_
            refine k_aload_n K dX12_markOf_152 0 rfl ?_
            refine k_iload_n K dX12_markOf_153 2 rfl ?_
            obtain ⟨⟨r34, s35⟩, e36, h⟩ := bd_some h
            dsimp only at h
            refine k_callVi K 0 12 (Nat.le_of_ble_eq_true rfl) ((mM_0 cI cZ ad) _) rfl (ctX12_liesOn e36) (cwV 1 K.ts gX12_markOf_X12_liesOn rfl rfl rfl hVX12_liesOn ⟨Nat.le_of_ble_eq_true rfl, Nat.le_of_ble_eq_true rfl⟩) rfl rfl (Nat.le_of_ble_eq_true rfl) dX12_markOf_154 ?_
            refine k_isub K dX12_markOf_157 ?_
            refine k_aload_n K dX12_markOf_158 0 rfl ?_
            refine k_get K 0 12 0 iX12_markOf_X12 (Nat.le_of_ble_eq_true rfl) ((mM_0 cI cZ ad) _) rfl (by decide) fX12_markOf_7 rfl dX12_markOf_159 ?_
            refine k_bipush (x := 61) K dX12_markOf_162 (by decide) ?_
            refine k_iload_n K dX12_markOf_164 2 rfl ?_
            refine k_iadd K dX12_markOf_165 ?_
            obtain ⟨g37, h⟩ := gd_some h
            refine k_ild K 1 0 (Nat.le_of_ble_eq_true rfl) ((mM_1 cI cZ ad) _) rfl g37 dX12_markOf_166 ?_
            refine k_iadd K dX12_markOf_167 ?_
            exact ret_i hR h dX12_markOf_168 trivial
          · have h := if_f q4 h
            refine k_tableOut (tgt := 169) K dX12_markOf_1 (sw_out5 q0 q1 q2 q3 q4) (by decide) ?_
            refine k_aload_n K dX12_markOf_169 0 rfl ?_
            refine k_dup K dX12_markOf_170 rfl ?_
            refine k_get K 0 12 16 iX12_markOf_X12 (Nat.le_of_ble_eq_true rfl) ((mM_0 cI cZ ad) _) rfl (by decide) fX12_markOf_291 rfl dX12_markOf_171 ?_
            refine k_ldc2 (v := 100000) K (by decide +kernel) dX12_markOf_174 ?_
            refine k_ladd K dX12_markOf_177 ?_
            have h := lt_some h
            refine k_putL K 0 12 16 tyX12 tyX12_ok nmX12 iX12_markOf_X12 (Nat.le_of_ble_eq_true rfl) ((mM_0 cI cZ ad) _) rfl (by decide) fX12_markOf_291 rfl (by decide +kernel) (Nat.le_of_ble_eq_true rfl) (put_longM cI cZ ad _ _) dX12_markOf_178 ?_
            refine k_aload_n K dX12_markOf_181 0 rfl ?_
            refine k_iload_n K dX12_markOf_182 2 rfl ?_
            obtain ⟨⟨r39, s40⟩, e41, h⟩ := bd_some h
            dsimp only at h
            refine k_callVi K 0 12 (Nat.le_of_ble_eq_true rfl) ((mM_0 cI cZ ad) _) rfl (ctX12_markOfCell e41) (cwV 1 K.ts gX12_markOf_X12_markOfCell rfl rfl rfl hVX12_markOfCell ⟨Nat.le_of_ble_eq_true rfl, Nat.le_of_ble_eq_true rfl⟩) rfl rfl (Nat.le_of_ble_eq_true rfl) dX12_markOf_183 ?_
            refine k_aload_n K dX12_markOf_186 0 rfl ?_
            refine k_get K 0 12 7 iX12_markOf_X12 (Nat.le_of_ble_eq_true rfl) ((mM_0 cI cZ ad) _) rfl (by decide) fX12_markOf_23 rfl dX12_markOf_187 ?_
            refine k_iload_n K dX12_markOf_190 2 rfl ?_
            obtain ⟨g42, h⟩ := gd_some h
            refine k_ild K 5 0 (Nat.le_of_ble_eq_true rfl) ((mM_5 cI cZ ad) _) rfl g42 dX12_markOf_191 ?_
            refine k_iadd K dX12_markOf_192 ?_
            exact ret_i hR h dX12_markOf_193 trivial
-- X12_mark (5, 110)
set_option maxRecDepth 100000 in
set_option maxHeartbeats 4000000 in
theorem ctX12_mark {l : Launch} {D : va_G} {cI cZ : ClassId} {ad : Nat → Nat} {v1 : Int32} {v2 : Int32} {v3 : Int32} {σ : St} {res : (Int32 × St)} (h : mX12_mark v1 v2 v3 σ = some res) : Ci l yX12_mark wsX12_mark 5 110 D vwCl (tysM cI cZ) nwM (mkM cI cZ ad) ad 17 [.ref (ad 0), .int v1, .int v2, .int v3] σ res := by
  refine c_int (cc := cX12_mark) (maxL := 4) (by decide) rfl (Nat.le_of_ble_eq_true rfl) fun a b hn K hR => ?_
  unfold mX12_mark at h
  have K : KS (GM l 5 110 D cI cZ ad a b (w_A ad 17)) cX12_mark RX12 wsX12_mark (some .int) := K
  have hn : x_n (GM l 5 110 D cI cZ ad a b (w_A ad 17)) = 4 := hn
  refine k_sub [0, 1, 2, 3] rfl ?_
  refine k_iload_n K dX12_mark_0 1 rfl ?_
  refine k_i2l K dX12_mark_1 ?_
  refine k_lconst (v := 0) K dX12_mark_2 (by decide) ?_
  refine k_ldc2 (v := 5) K (by decide +kernel) dX12_mark_3 ?_
  obtain ⟨⟨r1, s2⟩, e3, h⟩ := bd_some h
  dsimp only at h
  refine k_callSi K (ctX12_in e3) (va_cwS 3 K.ts gX12_mark_X12_in rfl rfl rfl hSX12_in ⟨Nat.le_of_ble_eq_true rfl, Nat.le_of_ble_eq_true rfl⟩) rfl rfl (Nat.le_of_ble_eq_true rfl) dX12_mark_6 ?_
  refine k_if_eq (tgt := 35) K dX12_mark_9 (by decide) (fun q => ?_) (fun q => ?_)
  · have h := if_t q h
    refine k_ldcw (x := (-1000000)) K (by decide +kernel) dX12_mark_35 ?_
    exact ret_i hR h dX12_mark_38 trivial
  · have h := if_f q h
    refine k_aload_n K dX12_mark_12 0 rfl ?_
    refine k_iload_n K dX12_mark_13 2 rfl ?_
    refine k_iload_n K dX12_mark_14 3 rfl ?_
    obtain ⟨⟨r4, s5⟩, e6, h⟩ := bd_some h
    dsimp only at h
    refine k_callVi K 0 12 (Nat.le_of_ble_eq_true rfl) ((mM_0 cI cZ ad) _) rfl (ctX12_isCell e6) (cwV 2 K.ts gX12_mark_X12_isCell rfl rfl rfl hVX12_isCell ⟨Nat.le_of_ble_eq_true rfl, Nat.le_of_ble_eq_true rfl⟩) rfl rfl (Nat.le_of_ble_eq_true rfl) dX12_mark_15 ?_
    refine k_if_eq (tgt := 35) K dX12_mark_18 (by decide) (fun q => ?_) (fun q => ?_)
    · have h := if_t q h
      refine k_ldcw (x := (-1000000)) K (by decide +kernel) dX12_mark_35 ?_
      exact ret_i hR h dX12_mark_38 trivial
    · have h := if_f q h
      refine k_aload_n K dX12_mark_21 0 rfl ?_
      refine k_iload_n K dX12_mark_22 1 rfl ?_
      refine k_aload_n K dX12_mark_23 0 rfl ?_
      refine k_iload_n K dX12_mark_24 2 rfl ?_
      refine k_iload_n K dX12_mark_25 3 rfl ?_
      obtain ⟨⟨r7, s8⟩, e9, h⟩ := bd_some h
      dsimp only at h
      refine k_callVi K 0 12 (Nat.le_of_ble_eq_true rfl) ((mM_0 cI cZ ad) _) rfl (ctX12_bit e9) (cwV 2 K.ts gX12_mark_X12_bit rfl rfl rfl hVX12_bit ⟨Nat.le_of_ble_eq_true rfl, Nat.le_of_ble_eq_true rfl⟩) rfl rfl (Nat.le_of_ble_eq_true rfl) dX12_mark_26 ?_
      obtain ⟨⟨r10, s11⟩, e12, h⟩ := bd_some h
      dsimp only at h
      refine k_callVi K 0 12 (Nat.le_of_ble_eq_true rfl) ((mM_0 cI cZ ad) _) rfl (ctX12_markOf e12) (cwV 2 K.ts gX12_mark_X12_markOf rfl rfl rfl hVX12_markOf ⟨Nat.le_of_ble_eq_true rfl, Nat.le_of_ble_eq_true rfl⟩) rfl rfl (Nat.le_of_ble_eq_true rfl) dX12_mark_29 ?_
      refine k_goto (tgt := 38) K dX12_mark_32 (by decide) ?_
      exact ret_i hR h dX12_mark_38 trivial
-- X12_copyRow (0, 0)
theorem iX12_copyRow_X12 : ∀ w ∈ wsX120, w ∈ wsX12_copyRow := fun _ h => List.mem_cons_of_mem _ (List.mem_append_right _ h)
theorem fX12_copyRow_7 : Cond.fieldLink RX12 7 "SlopeCoinsModel" "row" "[I" ∈ wsX12_copyRow := by decide +kernel
set_option maxRecDepth 100000 in
set_option maxHeartbeats 4000000 in
theorem wX12_copyRow_2 {l : Launch} {D : va_G} {cI cZ : ClassId} {ad : Nat → Nat} {a : Program × Env × State × MethodId} {b : Array Value × List Frame × Method × Code × (State → Prop) × Nat} {A : Nat → Prop} (K : KS (GM l 0 0 D cI cZ ad a b A) cX12_copyRow RX12 wsX12_copyRow none) (hn : x_n (GM l 0 0 D cI cZ ad a b A) = 4) {res : (Int32 × St)} (hR : HRv (GM l 0 0 D cI cZ ad a b A) cX12_copyRow res) : ∀ (n : Nat) (v1 : Int32) (v2 : Int32) (v3 : Int32) (σ : St), mX12_copyRow_2 n v1 v2 v3 σ = some res → Wk (GM l 0 0 D cI cZ ad a b A) 2 [(0, .ref (ad 0)), (1, .int v1), (2, .int v2), (3, .int v3)] [] σ := by
  intro n
  induction n with
  | zero => intro v1 v2 v3 σ h; cases h
  | succ n ih =>
    intro v1 v2 v3 σ h
    unfold mX12_copyRow_2 at h
    refine k_iload_n K dX12_copyRow_2 3 rfl ?_
    refine k_sipush (x := 1673) K dX12_copyRow_3 (by decide) ?_
    refine k_icmp_ge (tgt := 31) K dX12_copyRow_6 (by decide) (fun q => ?_) (fun q => ?_)
    · have h := if_f q h
      exact ret_v hR h dX12_copyRow_31
    · have h := if_t q h
      refine k_aload_n K dX12_copyRow_9 0 rfl ?_
      refine k_get K 0 12 0 iX12_copyRow_X12 (Nat.le_of_ble_eq_true rfl) ((mM_0 cI cZ ad) _) rfl (by decide) fX12_copyRow_7 rfl dX12_copyRow_10 ?_
      refine k_iload_n K dX12_copyRow_13 2 rfl ?_
      refine k_iload_n K dX12_copyRow_14 3 rfl ?_
      refine k_iadd K dX12_copyRow_15 ?_
      refine k_aload_n K dX12_copyRow_16 0 rfl ?_
      refine k_get K 0 12 0 iX12_copyRow_X12 (Nat.le_of_ble_eq_true rfl) ((mM_0 cI cZ ad) _) rfl (by decide) fX12_copyRow_7 rfl dX12_copyRow_17 ?_
      refine k_iload_n K dX12_copyRow_20 1 rfl ?_
      refine k_iload_n K dX12_copyRow_21 3 rfl ?_
      refine k_iadd K dX12_copyRow_22 ?_
      obtain ⟨g1, h⟩ := gd_some h
      refine k_ild K 1 0 (Nat.le_of_ble_eq_true rfl) ((mM_1 cI cZ ad) _) rfl g1 dX12_copyRow_23 ?_
      obtain ⟨g2, h⟩ := gd_some h
      have h := lt_some h
      refine k_ist K 1 0 (Nat.le_of_ble_eq_true rfl) (mM_1 cI cZ ad) rfl g2 dX12_copyRow_24 ?_
      have h := lt_some h
      refine k_iinc (lv' := [(3, _), (0, _), (1, _), (2, _)]) K dX12_copyRow_25 3 rfl (v := _ + 1) (by rfl) (by rw [hn]; decide) rfl ?_
      refine k_goto (tgt := 2) K dX12_copyRow_28 (by decide) ?_
      exact k_sub [1, 2, 3, 0] rfl (ih _ _ _ _ h)
set_option maxRecDepth 100000 in
set_option maxHeartbeats 4000000 in
theorem ctX12_copyRow {l : Launch} {D : va_G} {cI cZ : ClassId} {ad : Nat → Nat} {v1 : Int32} {v2 : Int32} {σ : St} {res : (Int32 × St)} (h : mX12_copyRow v1 v2 σ = some res) : Cv l yX12_copyRow wsX12_copyRow 0 0 D vwCl (tysM cI cZ) nwM (mkM cI cZ ad) ad 17 [.ref (ad 0), .int v1, .int v2] σ res := by
  refine c_void (cc := cX12_copyRow) (maxL := 4) (by decide) rfl (Nat.le_of_ble_eq_true rfl) fun a b hn K hR => ?_
  unfold mX12_copyRow at h
  have K : KS (GM l 0 0 D cI cZ ad a b (w_A ad 17)) cX12_copyRow RX12 wsX12_copyRow none := K
  have hn : x_n (GM l 0 0 D cI cZ ad a b (w_A ad 17)) = 4 := hn
  refine k_sub [0, 1, 2] rfl ?_
  refine k_iconst (x := 0) K dX12_copyRow_0 (by decide) ?_
  refine k_istore_n (lv' := [(3, _), (0, _), (1, _), (2, _)]) K dX12_copyRow_1 (by rw [hn]; decide) rfl ?_
  exact k_sub [1, 2, 3, 0] rfl (wX12_copyRow_2 K hn hR FU _ _ _ _ h)
-- X12_keep (2, 43)
theorem iX12_keep_X12 : ∀ w ∈ wsX120, w ∈ wsX12_keep := fun _ h => List.mem_cons_of_mem _ (List.mem_append_right _ h)
theorem fX12_keep_13 : Cond.fieldLink RX12 13 "SlopeCoinsModel" "isKept" "[Z" ∈ wsX12_keep := by decide +kernel
set_option maxRecDepth 100000 in
set_option maxHeartbeats 4000000 in
theorem ctX12_keep {l : Launch} {D : va_G} {cI cZ : ClassId} {ad : Nat → Nat} {v1 : Int32} {σ : St} {res : (Int32 × St)} (h : mX12_keep v1 σ = some res) : Ci l yX12_keep wsX12_keep 2 43 D vwCl (tysM cI cZ) nwM (mkM cI cZ ad) ad 17 [.ref (ad 0), .int v1] σ res := by
  refine c_int (cc := cX12_keep) (maxL := 2) (by decide) rfl (Nat.le_of_ble_eq_true rfl) fun a b hn K hR => ?_
  unfold mX12_keep at h
  have K : KS (GM l 2 43 D cI cZ ad a b (w_A ad 17)) cX12_keep RX12 wsX12_keep (some .int) := K
  have hn : x_n (GM l 2 43 D cI cZ ad a b (w_A ad 17)) = 2 := hn
  refine k_sub [0, 1] rfl ?_
  refine k_iload_n K dX12_keep_0 1 rfl ?_
  refine k_i2l K dX12_keep_1 ?_
  refine k_lconst (v := 0) K dX12_keep_2 (by decide) ?_
  refine k_lconst (v := 1) K dX12_keep_3 (by decide) ?_
  obtain ⟨⟨r1, s2⟩, e3, h⟩ := bd_some h
  dsimp only at h
  refine k_callSi K (ctX12_in e3) (va_cwS 3 K.ts gX12_keep_X12_in rfl rfl rfl hSX12_in ⟨Nat.le_of_ble_eq_true rfl, Nat.le_of_ble_eq_true rfl⟩) rfl rfl (Nat.le_of_ble_eq_true rfl) dX12_keep_4 ?_
  refine k_if_ne (tgt := 12) K dX12_keep_7 (by decide) (fun q => ?_) (fun q => ?_)
  · have h := if_f q h
    refine k_aload_n K dX12_keep_12 0 rfl ?_
    refine k_iconst (x := 0) K dX12_keep_13 (by decide) ?_
    refine k_sipush (x := 1673) K dX12_keep_14 (by decide) ?_
    refine k_iconst (x := 1) K dX12_keep_17 (by decide) ?_
    refine k_iload_n K dX12_keep_18 1 rfl ?_
    refine k_iadd K dX12_keep_19 ?_
    refine k_imul K dX12_keep_20 ?_
    obtain ⟨⟨r4, s5⟩, e6, h⟩ := bd_some h
    dsimp only at h
    refine k_callVv K 0 12 (Nat.le_of_ble_eq_true rfl) ((mM_0 cI cZ ad) _) rfl (ctX12_copyRow e6) (cwV 2 K.ts gX12_keep_X12_copyRow rfl rfl rfl hVX12_copyRow ⟨Nat.le_of_ble_eq_true rfl, Nat.le_of_ble_eq_true rfl⟩) rfl rfl (Nat.le_of_ble_eq_true rfl) dX12_keep_21 ?_
    refine k_aload_n K dX12_keep_24 0 rfl ?_
    refine k_get K 0 12 1 iX12_keep_X12 (Nat.le_of_ble_eq_true rfl) ((mM_0 cI cZ ad) _) rfl (by decide) fX12_keep_13 rfl dX12_keep_25 ?_
    refine k_iload_n K dX12_keep_28 1 rfl ?_
    refine k_iconst (x := 1) K dX12_keep_29 (by decide) ?_
    obtain ⟨g7, h⟩ := gd_some h
    have h := lt_some h
    refine k_zst K 2 1 (Nat.le_of_ble_eq_true rfl) (mM_2 cI cZ ad) rfl g7 (by decide +kernel) dX12_keep_30 ?_
    refine k_aload_n K dX12_keep_31 0 rfl ?_
    obtain ⟨⟨r9, s10⟩, e11, h⟩ := bd_some h
    dsimp only at h
    refine k_callVi K 0 12 (Nat.le_of_ble_eq_true rfl) ((mM_0 cI cZ ad) _) rfl (ctX12_lying e11) (cwV 0 K.ts gX12_keep_X12_lying rfl rfl rfl hVX12_lying ⟨Nat.le_of_ble_eq_true rfl, Nat.le_of_ble_eq_true rfl⟩) rfl rfl (Nat.le_of_ble_eq_true rfl) dX12_keep_32 ?_
    exact ret_i hR h dX12_keep_35 trivial
  · have h := if_t q h
    refine k_iconst (x := (-1)) K dX12_keep_10 (by decide) ?_
    exact ret_i hR h dX12_keep_11 trivial
-- X12_back (2, 43)
theorem iX12_back_X12 : ∀ w ∈ wsX120, w ∈ wsX12_back := fun _ h => List.mem_cons_of_mem _ (List.mem_append_right _ h)
theorem fX12_back_13 : Cond.fieldLink RX12 13 "SlopeCoinsModel" "isKept" "[Z" ∈ wsX12_back := by decide +kernel
set_option maxRecDepth 100000 in
set_option maxHeartbeats 4000000 in
theorem ctX12_back {l : Launch} {D : va_G} {cI cZ : ClassId} {ad : Nat → Nat} {v1 : Int32} {σ : St} {res : (Int32 × St)} (h : mX12_back v1 σ = some res) : Ci l yX12_back wsX12_back 2 43 D vwCl (tysM cI cZ) nwM (mkM cI cZ ad) ad 17 [.ref (ad 0), .int v1] σ res := by
  refine c_int (cc := cX12_back) (maxL := 2) (by decide) rfl (Nat.le_of_ble_eq_true rfl) fun a b hn K hR => ?_
  unfold mX12_back at h
  have K : KS (GM l 2 43 D cI cZ ad a b (w_A ad 17)) cX12_back RX12 wsX12_back (some .int) := K
  have hn : x_n (GM l 2 43 D cI cZ ad a b (w_A ad 17)) = 2 := hn
  refine k_sub [0, 1] rfl ?_
  refine k_iload_n K dX12_back_0 1 rfl ?_
  refine k_i2l K dX12_back_1 ?_
  refine k_lconst (v := 0) K dX12_back_2 (by decide) ?_
  refine k_lconst (v := 1) K dX12_back_3 (by decide) ?_
  obtain ⟨⟨r1, s2⟩, e3, h⟩ := bd_some h
  dsimp only at h
  refine k_callSi K (ctX12_in e3) (va_cwS 3 K.ts gX12_back_X12_in rfl rfl rfl hSX12_in ⟨Nat.le_of_ble_eq_true rfl, Nat.le_of_ble_eq_true rfl⟩) rfl rfl (Nat.le_of_ble_eq_true rfl) dX12_back_4 ?_
  refine k_if_ne (tgt := 12) K dX12_back_7 (by decide) (fun q => ?_) (fun q => ?_)
  · have h := if_f q h
    refine k_aload_n K dX12_back_12 0 rfl ?_
    refine k_get K 0 12 1 iX12_back_X12 (Nat.le_of_ble_eq_true rfl) ((mM_0 cI cZ ad) _) rfl (by decide) fX12_back_13 rfl dX12_back_13 ?_
    refine k_iload_n K dX12_back_16 1 rfl ?_
    obtain ⟨g4, h⟩ := gd_some h
    refine k_zld K 2 1 (Nat.le_of_ble_eq_true rfl) ((mM_2 cI cZ ad) _) rfl g4 dX12_back_17 ?_
    refine k_if_ne (tgt := 24) K dX12_back_18 (by decide) (fun q => ?_) (fun q => ?_)
    · have h := if_f q h
      refine k_aload_n K dX12_back_24 0 rfl ?_
      refine k_sipush (x := 1673) K dX12_back_25 (by decide) ?_
      refine k_iconst (x := 1) K dX12_back_28 (by decide) ?_
      refine k_iload_n K dX12_back_29 1 rfl ?_
      refine k_iadd K dX12_back_30 ?_
      refine k_imul K dX12_back_31 ?_
      refine k_iconst (x := 0) K dX12_back_32 (by decide) ?_
      obtain ⟨⟨r5, s6⟩, e7, h⟩ := bd_some h
      dsimp only at h
      refine k_callVv K 0 12 (Nat.le_of_ble_eq_true rfl) ((mM_0 cI cZ ad) _) rfl (ctX12_copyRow e7) (cwV 2 K.ts gX12_back_X12_copyRow rfl rfl rfl hVX12_copyRow ⟨Nat.le_of_ble_eq_true rfl, Nat.le_of_ble_eq_true rfl⟩) rfl rfl (Nat.le_of_ble_eq_true rfl) dX12_back_33 ?_
      refine k_aload_n K dX12_back_36 0 rfl ?_
      obtain ⟨⟨r8, s9⟩, e10, h⟩ := bd_some h
      dsimp only at h
      refine k_callVi K 0 12 (Nat.le_of_ble_eq_true rfl) ((mM_0 cI cZ ad) _) rfl (ctX12_lying e10) (cwV 0 K.ts gX12_back_X12_lying rfl rfl rfl hVX12_lying ⟨Nat.le_of_ble_eq_true rfl, Nat.le_of_ble_eq_true rfl⟩) rfl rfl (Nat.le_of_ble_eq_true rfl) dX12_back_37 ?_
      exact ret_i hR h dX12_back_40 trivial
    · have h := if_t q h
      refine k_bipush (x := (-2)) K dX12_back_21 (by decide) ?_
      exact ret_i hR h dX12_back_23 trivial
  · have h := if_t q h
    refine k_iconst (x := (-1)) K dX12_back_10 (by decide) ?_
    exact ret_i hR h dX12_back_11 trivial
-- X12_count (0, 0)
theorem iX12_count_X12 : ∀ w ∈ wsX120, w ∈ wsX12_count := fun _ h => List.mem_cons_of_mem _ (List.mem_append_right _ h)
theorem fX12_count_7 : Cond.fieldLink RX12 7 "SlopeCoinsModel" "row" "[I" ∈ wsX12_count := by decide +kernel
theorem fX12_count_72 : Cond.fieldLink RX12 72 "SlopeCoinsModel" "length" "I" ∈ wsX12_count := by decide +kernel
theorem fX12_count_143 : Cond.fieldLink RX12 143 "SlopeCoinsModel" "wide" "I" ∈ wsX12_count := by decide +kernel
theorem fX12_count_146 : Cond.fieldLink RX12 146 "SlopeCoinsModel" "high" "I" ∈ wsX12_count := by decide +kernel
theorem fX12_count_149 : Cond.fieldLink RX12 149 "SlopeCoinsModel" "kinds" "I" ∈ wsX12_count := by decide +kernel
theorem fX12_count_152 : Cond.fieldLink RX12 152 "SlopeCoinsModel" "gratingMany" "I" ∈ wsX12_count := by decide +kernel
theorem fX12_count_157 : Cond.fieldLink RX12 157 "SlopeCoinsModel" "seenMany" "I" ∈ wsX12_count := by decide +kernel
set_option maxRecDepth 100000 in
set_option maxHeartbeats 4000000 in
theorem ctX12_count {l : Launch} {D : va_G} {cI cZ : ClassId} {ad : Nat → Nat} {v1 : Int32} {σ : St} {res : (Int32 × St)} (h : mX12_count v1 σ = some res) : Ci l yX12_count wsX12_count 0 0 D vwCl (tysM cI cZ) nwM (mkM cI cZ ad) ad 17 [.ref (ad 0), .int v1] σ res := by
  refine c_int (cc := cX12_count) (maxL := 2) (by decide) rfl (Nat.le_of_ble_eq_true rfl) fun a b hn K hR => ?_
  unfold mX12_count at h
  have K : KS (GM l 0 0 D cI cZ ad a b (w_A ad 17)) cX12_count RX12 wsX12_count (some .int) := K
  have hn : x_n (GM l 0 0 D cI cZ ad a b (w_A ad 17)) = 2 := hn
  refine k_sub [0, 1] rfl ?_
  refine k_iload_n K dX12_count_0 1 rfl ?_
  refine k_case (y := 0) (fun q0 => ?_) (fun q0 => ?_)
  · have h := if_t q0 h
    refine k_tableIn (off := 43) (tgt := 44) K dX12_count_1 (by rw [q0]; decide) (by rw [q0]; decide) (by rw [q0]; rfl) (by decide) ?_
    refine k_aload_n K dX12_count_44 0 rfl ?_
    refine k_get K 0 12 4 iX12_count_X12 (Nat.le_of_ble_eq_true rfl) ((mM_0 cI cZ ad) _) rfl (by decide) fX12_count_143 rfl dX12_count_45 ?_
    exact ret_i hR h dX12_count_48 trivial
  · have h := if_f q0 h
    refine k_case (y := 1) (fun q1 => ?_) (fun q1 => ?_)
    · have h := if_t q1 h
      refine k_tableIn (off := 48) (tgt := 49) K dX12_count_1 (by rw [q1]; decide) (by rw [q1]; decide) (by rw [q1]; rfl) (by decide) ?_
      refine k_aload_n K dX12_count_49 0 rfl ?_
      refine k_get K 0 12 5 iX12_count_X12 (Nat.le_of_ble_eq_true rfl) ((mM_0 cI cZ ad) _) rfl (by decide) fX12_count_146 rfl dX12_count_50 ?_
      exact ret_i hR h dX12_count_53 trivial
    · have h := if_f q1 h
      refine k_case (y := 2) (fun q2 => ?_) (fun q2 => ?_)
      · have h := if_t q2 h
        refine k_tableIn (off := 53) (tgt := 54) K dX12_count_1 (by rw [q2]; decide) (by rw [q2]; decide) (by rw [q2]; rfl) (by decide) ?_
        refine k_aload_n K dX12_count_54 0 rfl ?_
        refine k_get K 0 12 8 iX12_count_X12 (Nat.le_of_ble_eq_true rfl) ((mM_0 cI cZ ad) _) rfl (by decide) fX12_count_152 rfl dX12_count_55 ?_
        exact ret_i hR h dX12_count_58 trivial
      · have h := if_f q2 h
        refine k_case (y := 3) (fun q3 => ?_) (fun q3 => ?_)
        · have h := if_t q3 h
          refine k_tableIn (off := 58) (tgt := 59) K dX12_count_1 (by rw [q3]; decide) (by rw [q3]; decide) (by rw [q3]; rfl) (by decide) ?_
          refine k_aload_n K dX12_count_59 0 rfl ?_
          refine k_get K 0 12 10 iX12_count_X12 (Nat.le_of_ble_eq_true rfl) ((mM_0 cI cZ ad) _) rfl (by decide) fX12_count_149 rfl dX12_count_60 ?_
          exact ret_i hR h dX12_count_63 trivial
        · have h := if_f q3 h
          refine k_case (y := 4) (fun q4 => ?_) (fun q4 => ?_)
          · have h := if_t q4 h
            refine k_tableIn (off := 63) (tgt := 64) K dX12_count_1 (by rw [q4]; decide) (by rw [q4]; decide) (by rw [q4]; rfl) (by decide) ?_
            refine k_aload_n K dX12_count_64 0 rfl ?_
            refine k_get K 0 12 15 iX12_count_X12 (Nat.le_of_ble_eq_true rfl) ((mM_0 cI cZ ad) _) rfl (by decide) fX12_count_157 rfl dX12_count_65 ?_
            exact ret_i hR h dX12_count_68 trivial
          · have h := if_f q4 h
            refine k_case (y := 5) (fun q5 => ?_) (fun q5 => ?_)
            · have h := if_t q5 h
              refine k_tableIn (off := 68) (tgt := 69) K dX12_count_1 (by rw [q5]; decide) (by rw [q5]; decide) (by rw [q5]; rfl) (by decide) ?_
              refine k_aload_n K dX12_count_69 0 rfl ?_
              refine k_get K 0 12 0 iX12_count_X12 (Nat.le_of_ble_eq_true rfl) ((mM_0 cI cZ ad) _) rfl (by decide) fX12_count_7 rfl dX12_count_70 ?_
              refine k_iconst (x := 0) K dX12_count_73 (by decide) ?_
              obtain ⟨g1, h⟩ := gd_some h
              refine k_ild K 1 0 (Nat.le_of_ble_eq_true rfl) ((mM_1 cI cZ ad) _) rfl g1 dX12_count_74 ?_
              exact ret_i hR h dX12_count_75 trivial
            · have h := if_f q5 h
              refine k_case (y := 6) (fun q6 => ?_) (fun q6 => ?_)
              · have h := if_t q6 h
                refine k_tableIn (off := 75) (tgt := 76) K dX12_count_1 (by rw [q6]; decide) (by rw [q6]; decide) (by rw [q6]; rfl) (by decide) ?_
                refine k_aload_n K dX12_count_76 0 rfl ?_
                refine k_get K 0 12 3 iX12_count_X12 (Nat.le_of_ble_eq_true rfl) ((mM_0 cI cZ ad) _) rfl (by decide) fX12_count_72 rfl dX12_count_77 ?_
                exact ret_i hR h dX12_count_80 trivial
              · have h := if_f q6 h
                refine k_tableOut (tgt := 81) K dX12_count_1 (sw_out7 q0 q1 q2 q3 q4 q5 q6) (by decide) ?_
                refine k_iconst (x := (-1)) K dX12_count_81 (by decide) ?_
                exact ret_i hR h dX12_count_82 trivial
-- X12_trace (0, 0)
theorem iX12_trace_X12 : ∀ w ∈ wsX120, w ∈ wsX12_trace := fun _ h => List.mem_cons_of_mem _ (List.mem_append_right _ h)
theorem fX12_trace_291 : Cond.fieldLink RX12 291 "SlopeCoinsModel" "trace" "J" ∈ wsX12_trace := by decide +kernel
set_option maxRecDepth 100000 in
set_option maxHeartbeats 4000000 in
theorem ctX12_trace {l : Launch} {D : va_G} {cI cZ : ClassId} {ad : Nat → Nat} {σ : St} {res : (Int64 × St)} (h : mX12_trace σ = some res) : Cl l yX12_trace wsX12_trace 0 0 D vwCl (tysM cI cZ) nwM (mkM cI cZ ad) ad 17 [.ref (ad 0)] σ res := by
  refine c_long (cc := cX12_trace) (maxL := 1) (by decide) rfl (Nat.le_of_ble_eq_true rfl) fun a b hn K hR => ?_
  unfold mX12_trace at h
  have K : KS (GM l 0 0 D cI cZ ad a b (w_A ad 17)) cX12_trace RX12 wsX12_trace (some .long) := K
  have hn : x_n (GM l 0 0 D cI cZ ad a b (w_A ad 17)) = 1 := hn
  refine k_sub [0] rfl ?_
  refine k_aload_n K dX12_trace_0 0 rfl ?_
  refine k_get K 0 12 16 iX12_trace_X12 (Nat.le_of_ble_eq_true rfl) ((mM_0 cI cZ ad) _) rfl (by decide) fX12_trace_291 rfl dX12_trace_1 ?_
  exact ret_l hR h dX12_trace_4

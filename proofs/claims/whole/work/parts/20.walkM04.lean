/-! walks, by program -/
-- X12_toldSide (1, 21)
set_option maxRecDepth 100000 in
set_option maxHeartbeats 4000000 in
theorem ctX12_toldSide {l : Launch} {D : va_G} {cI cZ : ClassId} {ad : Nat → Nat} {v1 : Int32} {σ : St} {res : (Int32 × St)} (h : mX12_toldSide v1 σ = some res) : Ci l yX12_toldSide wsX12_toldSide 1 21 D vwCl (tysM cI cZ) nwM (mkM cI cZ ad) ad 17 [.ref (ad 0), .int v1] σ res := by
  refine c_int (cc := cX12_toldSide) (maxL := 2) (by decide) rfl (Nat.le_of_ble_eq_true rfl) fun a b hn K hR => ?_
  unfold mX12_toldSide at h
  have K : KS (GM l 1 21 D cI cZ ad a b (w_A ad 17)) cX12_toldSide RX12 wsX12_toldSide (some .int) := K
  have hn : x_n (GM l 1 21 D cI cZ ad a b (w_A ad 17)) = 2 := hn
  refine k_sub [0, 1] rfl ?_
  refine k_iload_n K dX12_toldSide_0 1 rfl ?_
  refine k_bipush (x := (-9)) K dX12_toldSide_1 (by decide) ?_
  refine k_icmp_ne (tgt := 11) K dX12_toldSide_3 (by decide) (fun q => ?_) (fun q => ?_)
  · have h := if_f q h
    refine k_bipush (x := 10) K dX12_toldSide_11 (by decide) ?_
    refine k_aload_n K dX12_toldSide_13 0 rfl ?_
    refine k_iload_n K dX12_toldSide_14 1 rfl ?_
    refine k_iconst (x := 2) K dX12_toldSide_15 (by decide) ?_
    refine k_idiv K dX12_toldSide_16 (by decide) ?_
    obtain ⟨⟨r1, s2⟩, e3, h⟩ := bd_some h
    dsimp only at h
    refine k_callVi K 0 12 (Nat.le_of_ble_eq_true rfl) ((mM_0 cI cZ ad) _) rfl (ctX12_pairOf e3) (cwV 1 K.ts gX12_toldSide_X12_pairOf rfl rfl rfl hVX12_pairOf ⟨Nat.le_of_ble_eq_true rfl, Nat.le_of_ble_eq_true rfl⟩) rfl rfl (Nat.le_of_ble_eq_true rfl) dX12_toldSide_17 ?_
    refine k_imul K dX12_toldSide_20 ?_
    refine k_iload_n K dX12_toldSide_21 1 rfl ?_
    refine k_iconst (x := 2) K dX12_toldSide_22 (by decide) ?_
    refine k_irem K dX12_toldSide_23 (by decide) ?_
    refine k_iadd K dX12_toldSide_24 ?_
    exact ret_i hR h dX12_toldSide_25 trivial
  · have h := if_t q h
    refine k_bipush (x := (-5)) K dX12_toldSide_6 (by decide) ?_
    refine k_goto (tgt := 25) K dX12_toldSide_8 (by decide) ?_
    exact ret_i hR h dX12_toldSide_25 trivial
-- X12_planks (8, 190)
theorem iX12_planks_X12 : ∀ w ∈ wsX120, w ∈ wsX12_planks := fun _ h => List.mem_cons_of_mem _ (List.mem_append_right _ h)
theorem fX12_planks_56 : Cond.fieldLink RX12 56 "SlopeCoinsModel" "triedOne" "I" ∈ wsX12_planks := by decide +kernel
theorem fX12_planks_60 : Cond.fieldLink RX12 60 "SlopeCoinsModel" "triedTwo" "I" ∈ wsX12_planks := by decide +kernel
set_option maxRecDepth 100000 in
set_option maxHeartbeats 4000000 in
theorem wX12_planks_150 {l : Launch} {D : va_G} {cI cZ : ClassId} {ad : Nat → Nat} {a : Program × Env × State × MethodId} {b : Array Value × List Frame × Method × Code × (State → Prop) × Nat} {A : Nat → Prop} (K : KS (GM l 8 190 D cI cZ ad a b A) cX12_planks RX12 wsX12_planks (some .int)) (hn : x_n (GM l 8 190 D cI cZ ad a b A) = 10) {res : (Int32 × St)} (hR : HRi (GM l 8 190 D cI cZ ad a b A) cX12_planks tb res) : ∀ (v4 : Int32), ∀ (v7 : Int32), ∀ (v8 : Int32), ∀ (t0 : Int32), ∀ (σ : St), mX12_planks_150 v4 v7 v8 t0 σ = some res → Wk (GM l 8 190 D cI cZ ad a b A) 150 [(0, .ref (ad 0)), (4, .int v4), (7, .int v7), (8, .int v8)] [.int t0] σ := by
  intro v4 v7 v8 t0 σ h
  unfold mX12_planks_150 at h
  refine k_istore (lv' := [(9, _), (0, _), (4, _), (7, _), (8, _)]) K dX12_planks_150 (by rw [hn]; decide) rfl ?_
  refine k_aload_n K dX12_planks_152 1 rfl ?_
  refine k_bipush (x := (-9)) K dX12_planks_153 (by decide) ?_
  have h := lt_some h
  refine k_putI K 0 12 30 tyX12 tyX12_ok nmX12 iX12_planks_X12 (Nat.le_of_ble_eq_true rfl) ((mM_0 cI cZ ad) _) rfl (by decide) fX12_planks_56 rfl (by decide +kernel) (Nat.le_of_ble_eq_true rfl) (pM_0_30 cI cZ ad _ _) dX12_planks_155 ?_
  refine k_aload_n K dX12_planks_158 1 rfl ?_
  refine k_bipush (x := (-9)) K dX12_planks_159 (by decide) ?_
  have h := lt_some h
  refine k_putI K 0 12 31 tyX12 tyX12_ok nmX12 iX12_planks_X12 (Nat.le_of_ble_eq_true rfl) ((mM_0 cI cZ ad) _) rfl (by decide) fX12_planks_60 rfl (by decide +kernel) (Nat.le_of_ble_eq_true rfl) (pM_0_31 cI cZ ad _ _) dX12_planks_161 ?_
  refine k_iload K dX12_planks_164 3 rfl ?_
  refine k_bipush (x := (-9)) K dX12_planks_166 (by decide) ?_
  refine k_icmp_eq (tgt := 176) K dX12_planks_168 (by decide) (fun q => ?_) (fun q => ?_)
  · have h := if_t q h
    refine k_iload K dX12_planks_176 3 rfl ?_
    refine k_goto (tgt := 198) K dX12_planks_178 (by decide) ?_
    exact ret_i hR h dX12_planks_198 trivial
  · have h := if_f q h
    refine k_iload K dX12_planks_171 2 rfl ?_
    refine k_if_ne (tgt := 181) K dX12_planks_173 (by decide) (fun q => ?_) (fun q => ?_)
    · have h := if_f q h
      refine k_aload_n K dX12_planks_181 1 rfl ?_
      refine k_iload K dX12_planks_182 2 rfl ?_
      refine k_iconst (x := 1) K dX12_planks_184 (by decide) ?_
      refine k_icmp_ne (tgt := 193) K dX12_planks_185 (by decide) (fun q => ?_) (fun q => ?_)
      · have h := if_f q h
        refine k_iload K dX12_planks_193 0 rfl ?_
        obtain ⟨⟨r32, s33⟩, e34, h⟩ := bd_some h
        dsimp only at h
        refine k_callVi K 0 12 (Nat.le_of_ble_eq_true rfl) ((mM_0 cI cZ ad) _) rfl (ctX12_toldSide e34) (cwV 1 K.ts gX12_planks_X12_toldSide rfl rfl rfl hVX12_toldSide ⟨Nat.le_of_ble_eq_true rfl, Nat.le_of_ble_eq_true rfl⟩) rfl rfl (Nat.le_of_ble_eq_true rfl) dX12_planks_195 ?_
        exact ret_i hR h dX12_planks_198 trivial
      · have h := if_t q h
        refine k_iload K dX12_planks_188 4 rfl ?_
        refine k_goto (tgt := 195) K dX12_planks_190 (by decide) ?_
        obtain ⟨⟨r35, s36⟩, e37, h⟩ := bd_some h
        dsimp only at h
        refine k_callVi K 0 12 (Nat.le_of_ble_eq_true rfl) ((mM_0 cI cZ ad) _) rfl (ctX12_toldSide e37) (cwV 1 K.ts gX12_planks_X12_toldSide rfl rfl rfl hVX12_toldSide ⟨Nat.le_of_ble_eq_true rfl, Nat.le_of_ble_eq_true rfl⟩) rfl rfl (Nat.le_of_ble_eq_true rfl) dX12_planks_195 ?_
        exact ret_i hR h dX12_planks_198 trivial
    · have h := if_t q h
      refine k_iload K dX12_planks_176 3 rfl ?_
      refine k_goto (tgt := 198) K dX12_planks_178 (by decide) ?_
      exact ret_i hR h dX12_planks_198 trivial
set_option maxRecDepth 100000 in
set_option maxHeartbeats 4000000 in
theorem wX12_planks_133 {l : Launch} {D : va_G} {cI cZ : ClassId} {ad : Nat → Nat} {a : Program × Env × State × MethodId} {b : Array Value × List Frame × Method × Code × (State → Prop) × Nat} {A : Nat → Prop} (K : KS (GM l 8 190 D cI cZ ad a b A) cX12_planks RX12 wsX12_planks (some .int)) (hn : x_n (GM l 8 190 D cI cZ ad a b A) = 10) {res : (Int32 × St)} (hR : HRi (GM l 8 190 D cI cZ ad a b A) cX12_planks tb res) : ∀ (v4 : Int32), ∀ (v7 : Int32), ∀ (t0 : Int32), ∀ (σ : St), mX12_planks_133 v4 v7 t0 σ = some res → Wk (GM l 8 190 D cI cZ ad a b A) 133 [(0, .ref (ad 0)), (4, .int v4), (7, .int v7)] [.int t0] σ := by
  intro v4 v7 t0 σ h
  unfold mX12_planks_133 at h
  refine k_istore (lv' := [(8, _), (0, _), (4, _), (7, _)]) K dX12_planks_133 (by rw [hn]; decide) rfl ?_
  refine k_iload K dX12_planks_135 3 rfl ?_
  refine k_iconst (x := 2) K dX12_planks_137 (by decide) ?_
  refine k_icmp_ne (tgt := 148) K dX12_planks_138 (by decide) (fun q => ?_) (fun q => ?_)
  · have h := if_f q h
    refine k_bipush (x := (-9)) K dX12_planks_148 (by decide) ?_
    exact k_sub [1, 2, 3, 0] rfl (wX12_planks_150 K hn hR _ _ _ _ _ h)
  · have h := if_t q h
    refine k_aload_n K dX12_planks_141 1 rfl ?_
    refine k_get K 0 12 31 iX12_planks_X12 (Nat.le_of_ble_eq_true rfl) ((mM_0 cI cZ ad) _) rfl (by decide) fX12_planks_60 rfl dX12_planks_142 ?_
    refine k_goto (tgt := 150) K dX12_planks_145 (by decide) ?_
    exact k_sub [1, 2, 3, 0] rfl (wX12_planks_150 K hn hR _ _ _ _ _ h)
set_option maxRecDepth 100000 in
set_option maxHeartbeats 4000000 in
theorem wX12_planks_117 {l : Launch} {D : va_G} {cI cZ : ClassId} {ad : Nat → Nat} {a : Program × Env × State × MethodId} {b : Array Value × List Frame × Method × Code × (State → Prop) × Nat} {A : Nat → Prop} (K : KS (GM l 8 190 D cI cZ ad a b A) cX12_planks RX12 wsX12_planks (some .int)) (hn : x_n (GM l 8 190 D cI cZ ad a b A) = 10) {res : (Int32 × St)} (hR : HRi (GM l 8 190 D cI cZ ad a b A) cX12_planks tb res) : ∀ (v4 : Int32), ∀ (t0 : Int32), ∀ (σ : St), mX12_planks_117 v4 t0 σ = some res → Wk (GM l 8 190 D cI cZ ad a b A) 117 [(0, .ref (ad 0)), (4, .int v4)] [.int t0] σ := by
  intro v4 t0 σ h
  unfold mX12_planks_117 at h
  refine k_istore (lv' := [(7, _), (0, _), (4, _)]) K dX12_planks_117 (by rw [hn]; decide) rfl ?_
  refine k_iload K dX12_planks_119 0 rfl ?_
  refine k_if_le (tgt := 131) K dX12_planks_121 (by decide) (fun q => ?_) (fun q => ?_)
  · have h := if_f q h
    refine k_bipush (x := (-9)) K dX12_planks_131 (by decide) ?_
    exact k_sub [1, 2, 0] rfl (wX12_planks_133 K hn hR _ _ _ _ h)
  · have h := if_t q h
    refine k_aload_n K dX12_planks_124 1 rfl ?_
    refine k_get K 0 12 30 iX12_planks_X12 (Nat.le_of_ble_eq_true rfl) ((mM_0 cI cZ ad) _) rfl (by decide) fX12_planks_56 rfl dX12_planks_125 ?_
    refine k_goto (tgt := 133) K dX12_planks_128 (by decide) ?_
    exact k_sub [1, 2, 0] rfl (wX12_planks_133 K hn hR _ _ _ _ h)
set_option maxRecDepth 100000 in
set_option maxHeartbeats 4000000 in
theorem ctX12_planks {l : Launch} {D : va_G} {cI cZ : ClassId} {ad : Nat → Nat} {v1 : Int32} {v2 : Int32} {v3 : Int32} {v4 : Int32} {σ : St} {res : (Int32 × St)} (h : mX12_planks v1 v2 v3 v4 σ = some res) : Ci l yX12_planks wsX12_planks 8 190 D vwCl (tysM cI cZ) nwM (mkM cI cZ ad) ad 17 [.ref (ad 0), .int v1, .int v2, .int v3, .int v4] σ res := by
  refine c_int (cc := cX12_planks) (maxL := 10) (by decide) rfl (Nat.le_of_ble_eq_true rfl) fun a b hn K hR => ?_
  unfold mX12_planks at h
  have K : KS (GM l 8 190 D cI cZ ad a b (w_A ad 17)) cX12_planks RX12 wsX12_planks (some .int) := K
  have hn : x_n (GM l 8 190 D cI cZ ad a b (w_A ad 17)) = 10 := hn
  refine k_sub [0, 1, 2, 3, 4] rfl ?_
  refine k_aload_n K dX12_planks_0 0 rfl ?_
  refine k_iload_n K dX12_planks_1 1 rfl ?_
  obtain ⟨⟨r1, s2⟩, e3, h⟩ := bd_some h
  dsimp only at h
  refine k_callVi K 0 12 (Nat.le_of_ble_eq_true rfl) ((mM_0 cI cZ ad) _) rfl (ctX12_isKind e3) (cwV 1 K.ts gX12_planks_X12_isKind rfl rfl rfl hVX12_isKind ⟨Nat.le_of_ble_eq_true rfl, Nat.le_of_ble_eq_true rfl⟩) rfl rfl (Nat.le_of_ble_eq_true rfl) dX12_planks_2 ?_
  refine k_if_eq (tgt := 37) K dX12_planks_5 (by decide) (fun q => ?_) (fun q => ?_)
  · have h := if_t q h
    refine k_iconst (x := (-1)) K dX12_planks_37 (by decide) ?_
    exact ret_i hR h dX12_planks_38 trivial
  · have h := if_f q h
    refine k_aload_n K dX12_planks_8 0 rfl ?_
    refine k_iload_n K dX12_planks_9 2 rfl ?_
    obtain ⟨⟨r4, s5⟩, e6, h⟩ := bd_some h
    dsimp only at h
    refine k_callVi K 0 12 (Nat.le_of_ble_eq_true rfl) ((mM_0 cI cZ ad) _) rfl (ctX12_isPair e6) (cwV 1 K.ts gX12_planks_X12_isPair rfl rfl rfl hVX12_isPair ⟨Nat.le_of_ble_eq_true rfl, Nat.le_of_ble_eq_true rfl⟩) rfl rfl (Nat.le_of_ble_eq_true rfl) dX12_planks_10 ?_
    refine k_if_eq (tgt := 37) K dX12_planks_13 (by decide) (fun q => ?_) (fun q => ?_)
    · have h := if_t q h
      refine k_iconst (x := (-1)) K dX12_planks_37 (by decide) ?_
      exact ret_i hR h dX12_planks_38 trivial
    · have h := if_f q h
      refine k_aload_n K dX12_planks_16 0 rfl ?_
      refine k_iload_n K dX12_planks_17 3 rfl ?_
      obtain ⟨⟨r7, s8⟩, e9, h⟩ := bd_some h
      dsimp only at h
      refine k_callVi K 0 12 (Nat.le_of_ble_eq_true rfl) ((mM_0 cI cZ ad) _) rfl (ctX12_isPair e9) (cwV 1 K.ts gX12_planks_X12_isPair rfl rfl rfl hVX12_isPair ⟨Nat.le_of_ble_eq_true rfl, Nat.le_of_ble_eq_true rfl⟩) rfl rfl (Nat.le_of_ble_eq_true rfl) dX12_planks_18 ?_
      refine k_if_eq (tgt := 37) K dX12_planks_21 (by decide) (fun q => ?_) (fun q => ?_)
      · have h := if_t q h
        refine k_iconst (x := (-1)) K dX12_planks_37 (by decide) ?_
        exact ret_i hR h dX12_planks_38 trivial
      · have h := if_f q h
        refine k_iload K dX12_planks_24 4 rfl ?_
        refine k_i2l K dX12_planks_26 ?_
        refine k_lconst (v := 0) K dX12_planks_27 (by decide) ?_
        refine k_ldc2 (v := 2) K (by decide +kernel) dX12_planks_28 ?_
        obtain ⟨⟨r10, s11⟩, e12, h⟩ := bd_some h
        dsimp only at h
        refine k_callSi K (ctX12_in e12) (va_cwS 3 K.ts gX12_planks_X12_in rfl rfl rfl hSX12_in ⟨Nat.le_of_ble_eq_true rfl, Nat.le_of_ble_eq_true rfl⟩) rfl rfl (Nat.le_of_ble_eq_true rfl) dX12_planks_31 ?_
        refine k_if_ne (tgt := 39) K dX12_planks_34 (by decide) (fun q => ?_) (fun q => ?_)
        · have h := if_f q h
          refine k_aload_n K dX12_planks_39 0 rfl ?_
          refine k_iload_n K dX12_planks_40 2 rfl ?_
          obtain ⟨⟨r13, s14⟩, e15, h⟩ := bd_some h
          dsimp only at h
          refine k_callVi K 0 12 (Nat.le_of_ble_eq_true rfl) ((mM_0 cI cZ ad) _) rfl (ctX12_bitOf e15) (cwV 1 K.ts gX12_planks_X12_bitOf rfl rfl rfl hVX12_bitOf ⟨Nat.le_of_ble_eq_true rfl, Nat.le_of_ble_eq_true rfl⟩) rfl rfl (Nat.le_of_ble_eq_true rfl) dX12_planks_41 ?_
          refine k_istore (lv' := [(5, _), (0, _), (1, _), (2, _), (3, _), (4, _)]) K dX12_planks_44 (by rw [hn]; decide) rfl ?_
          refine k_aload_n K dX12_planks_46 1 rfl ?_
          refine k_iload_n K dX12_planks_47 4 rfl ?_
          obtain ⟨⟨r16, s17⟩, e18, h⟩ := bd_some h
          dsimp only at h
          refine k_callVi K 0 12 (Nat.le_of_ble_eq_true rfl) ((mM_0 cI cZ ad) _) rfl (ctX12_bitOf e18) (cwV 1 K.ts gX12_planks_X12_bitOf rfl rfl rfl hVX12_bitOf ⟨Nat.le_of_ble_eq_true rfl, Nat.le_of_ble_eq_true rfl⟩) rfl rfl (Nat.le_of_ble_eq_true rfl) dX12_planks_48 ?_
          refine k_istore (lv' := [(6, _), (5, _), (0, _), (1, _), (2, _), (3, _), (4, _)]) K dX12_planks_51 (by rw [hn]; decide) rfl ?_
          refine k_aload_n K dX12_planks_53 2 rfl ?_
          refine k_bipush (x := (-9)) K dX12_planks_54 (by decide) ?_
          have h := lt_some h
          refine k_putI K 0 12 30 tyX12 tyX12_ok nmX12 iX12_planks_X12 (Nat.le_of_ble_eq_true rfl) ((mM_0 cI cZ ad) _) rfl (by decide) fX12_planks_56 rfl (by decide +kernel) (Nat.le_of_ble_eq_true rfl) (pM_0_30 cI cZ ad _ _) dX12_planks_56 ?_
          refine k_aload_n K dX12_planks_59 2 rfl ?_
          refine k_bipush (x := (-9)) K dX12_planks_60 (by decide) ?_
          have h := lt_some h
          refine k_putI K 0 12 31 tyX12 tyX12_ok nmX12 iX12_planks_X12 (Nat.le_of_ble_eq_true rfl) ((mM_0 cI cZ ad) _) rfl (by decide) fX12_planks_60 rfl (by decide +kernel) (Nat.le_of_ble_eq_true rfl) (pM_0_31 cI cZ ad _ _) dX12_planks_62 ?_
          refine k_aload_n K dX12_planks_65 2 rfl ?_
          refine k_iload_n K dX12_planks_66 3 rfl ?_
          refine k_iload K dX12_planks_67 1 rfl ?_
          obtain ⟨⟨r21, s22⟩, e23, h⟩ := bd_some h
          dsimp only at h
          refine k_callVi K 0 12 (Nat.le_of_ble_eq_true rfl) ((mM_0 cI cZ ad) _) rfl (ctX12_endOf e23) (cwV 2 K.ts gX12_planks_X12_endOf rfl rfl rfl hVX12_endOf ⟨Nat.le_of_ble_eq_true rfl, Nat.le_of_ble_eq_true rfl⟩) rfl rfl (Nat.le_of_ble_eq_true rfl) dX12_planks_69 ?_
          refine k_iload K dX12_planks_72 0 rfl ?_
          refine k_icmp_ne (tgt := 81) K dX12_planks_74 (by decide) (fun q => ?_) (fun q => ?_)
          · have h := if_f q h
            refine k_aload_n K dX12_planks_81 2 rfl ?_
            refine k_iload_n K dX12_planks_82 3 rfl ?_
            refine k_iload K dX12_planks_83 1 rfl ?_
            refine k_iload K dX12_planks_85 0 rfl ?_
            refine k_iconst (x := 1) K dX12_planks_87 (by decide) ?_
            obtain ⟨⟨r24, s25⟩, e26, h⟩ := bd_some h
            dsimp only at h
            refine k_callVi K 0 12 (Nat.le_of_ble_eq_true rfl) ((mM_0 cI cZ ad) _) rfl (ctX12_triesPlanks e26) (cwV 4 K.ts gX12_planks_X12_triesPlanks rfl rfl rfl hVX12_triesPlanks ⟨Nat.le_of_ble_eq_true rfl, Nat.le_of_ble_eq_true rfl⟩) rfl rfl (Nat.le_of_ble_eq_true rfl) dX12_planks_88 ?_
            refine k_if_eq (tgt := 98) K dX12_planks_91 (by decide) (fun q => ?_) (fun q => ?_)
            · have h := if_t q h
              refine k_aload_n K dX12_planks_98 2 rfl ?_
              refine k_iload_n K dX12_planks_99 3 rfl ?_
              refine k_iload K dX12_planks_100 1 rfl ?_
              refine k_iload K dX12_planks_102 0 rfl ?_
              refine k_iconst (x := 2) K dX12_planks_104 (by decide) ?_
              obtain ⟨⟨r27, s28⟩, e29, h⟩ := bd_some h
              dsimp only at h
              refine k_callVi K 0 12 (Nat.le_of_ble_eq_true rfl) ((mM_0 cI cZ ad) _) rfl (ctX12_triesPlanks e29) (cwV 4 K.ts gX12_planks_X12_triesPlanks rfl rfl rfl hVX12_triesPlanks ⟨Nat.le_of_ble_eq_true rfl, Nat.le_of_ble_eq_true rfl⟩) rfl rfl (Nat.le_of_ble_eq_true rfl) dX12_planks_105 ?_
              refine k_if_eq (tgt := 115) K dX12_planks_108 (by decide) (fun q => ?_) (fun q => ?_)
              · have h := if_t q h
                refine k_bipush (x := (-9)) K dX12_planks_115 (by decide) ?_
                exact k_sub [2, 6] rfl (wX12_planks_117 K hn hR _ _ _ h)
              · have h := if_f q h
                refine k_iconst (x := 2) K dX12_planks_111 (by decide) ?_
                refine k_goto (tgt := 117) K dX12_planks_112 (by decide) ?_
                exact k_sub [2, 6] rfl (wX12_planks_117 K hn hR _ _ _ h)
            · have h := if_f q h
              refine k_iconst (x := 1) K dX12_planks_94 (by decide) ?_
              refine k_goto (tgt := 117) K dX12_planks_95 (by decide) ?_
              exact k_sub [2, 6] rfl (wX12_planks_117 K hn hR _ _ _ h)
          · have h := if_t q h
            refine k_iconst (x := 0) K dX12_planks_77 (by decide) ?_
            refine k_goto (tgt := 117) K dX12_planks_78 (by decide) ?_
            exact k_sub [2, 6] rfl (wX12_planks_117 K hn hR _ _ _ h)
        · have h := if_t q h
          refine k_iconst (x := (-1)) K dX12_planks_37 (by decide) ?_
          exact ret_i hR h dX12_planks_38 trivial
-- X12_paved (8, 188)
theorem iX12_paved_X12 : ∀ w ∈ wsX120, w ∈ wsX12_paved := fun _ h => List.mem_cons_of_mem _ (List.mem_append_right _ h)
theorem fX12_paved_7 : Cond.fieldLink RX12 7 "SlopeCoinsModel" "row" "[I" ∈ wsX12_paved := by decide +kernel
set_option maxRecDepth 100000 in
set_option maxHeartbeats 4000000 in
theorem wX12_paved_142 {l : Launch} {D : va_G} {cI cZ : ClassId} {ad : Nat → Nat} {a : Program × Env × State × MethodId} {b : Array Value × List Frame × Method × Code × (State → Prop) × Nat} {A : Nat → Prop} (K : KS (GM l 8 188 D cI cZ ad a b A) cX12_paved RX12 wsX12_paved (some .int)) (hn : x_n (GM l 8 188 D cI cZ ad a b A) = 9) {res : (Int32 × St)} (hR : HRi (GM l 8 188 D cI cZ ad a b A) cX12_paved tb res) : ∀ (v4 : Int32), ∀ (v5 : Int32), ∀ (v6 : Int32), ∀ (σ : St), mX12_paved_142 v4 v5 v6 σ = some res → Wk (GM l 8 188 D cI cZ ad a b A) 142 [(0, .ref (ad 0)), (4, .int v4), (5, .int v5), (6, .int v6)] [] σ := by
  intro v4 v5 v6 σ h
  unfold mX12_paved_142 at h
  refine k_iload K dX12_paved_142 2 rfl ?_
  refine k_bipush (x := (-9)) K dX12_paved_144 (by decide) ?_
  refine k_icmp_ne (tgt := 154) K dX12_paved_146 (by decide) (fun q => ?_) (fun q => ?_)
  · have h := if_f q h
    refine k_iload K dX12_paved_154 1 rfl ?_
    refine k_if_ne (tgt := 168) K dX12_paved_156 (by decide) (fun q => ?_) (fun q => ?_)
    · have h := if_f q h
      refine k_iload K dX12_paved_168 3 rfl ?_
      exact ret_i hR h dX12_paved_170 trivial
    · have h := if_t q h
      refine k_aload_n K dX12_paved_159 0 rfl ?_
      refine k_iload K dX12_paved_160 2 rfl ?_
      obtain ⟨⟨r13, s14⟩, e15, h⟩ := bd_some h
      dsimp only at h
      refine k_callVi K 0 12 (Nat.le_of_ble_eq_true rfl) ((mM_0 cI cZ ad) _) rfl (ctX12_pairOf e15) (cwV 1 K.ts gX12_paved_X12_pairOf rfl rfl rfl hVX12_pairOf ⟨Nat.le_of_ble_eq_true rfl, Nat.le_of_ble_eq_true rfl⟩) rfl rfl (Nat.le_of_ble_eq_true rfl) dX12_paved_162 ?_
      refine k_goto (tgt := 170) K dX12_paved_165 (by decide) ?_
      exact ret_i hR h dX12_paved_170 trivial
  · have h := if_t q h
    refine k_bipush (x := (-9)) K dX12_paved_149 (by decide) ?_
    refine k_goto (tgt := 170) K dX12_paved_151 (by decide) ?_
    exact ret_i hR h dX12_paved_170 trivial
set_option maxRecDepth 100000 in
set_option maxHeartbeats 4000000 in
theorem wX12_paved_136 {l : Launch} {D : va_G} {cI cZ : ClassId} {ad : Nat → Nat} {a : Program × Env × State × MethodId} {b : Array Value × List Frame × Method × Code × (State → Prop) × Nat} {A : Nat → Prop} {k142 : Int32 → Int32 → Int32 → St → Option (Int32 × St)} {rc : Int32 → Int32 → Int32 → Int32 → Int32 → Int32 → Int32 → St → Option (Int32 × St)} (K : KS (GM l 8 188 D cI cZ ad a b A) cX12_paved RX12 wsX12_paved (some .int)) (hn : x_n (GM l 8 188 D cI cZ ad a b A) = 9) {res : (Int32 × St)} (hR : HRi (GM l 8 188 D cI cZ ad a b A) cX12_paved tb res) (hk142 : ∀ (v4 : Int32) (v5 : Int32) (v6 : Int32) (σ : St), k142 v4 v5 v6 σ = some res → Wk (GM l 8 188 D cI cZ ad a b A) 142 [(0, .ref (ad 0)), (4, .int v4), (5, .int v5), (6, .int v6)] [] σ) (hrc : ∀ (v1 : Int32) (v2 : Int32) (v3 : Int32) (v4 : Int32) (v5 : Int32) (v6 : Int32) (v7 : Int32) (σ : St), rc v1 v2 v3 v4 v5 v6 v7 σ = some res → Wk (GM l 8 188 D cI cZ ad a b A) 41 [(0, .ref (ad 0)), (1, .int v1), (2, .int v2), (3, .int v3), (4, .int v4), (5, .int v5), (6, .int v6), (7, .int v7)] [] σ) : ∀ (v1 : Int32), ∀ (v2 : Int32), ∀ (v3 : Int32), ∀ (v4 : Int32), ∀ (v5 : Int32), ∀ (v6 : Int32), ∀ (v7 : Int32), ∀ (σ : St), mX12_paved_136 k142 rc v1 v2 v3 v4 v5 v6 v7 σ = some res → Wk (GM l 8 188 D cI cZ ad a b A) 136 [(0, .ref (ad 0)), (1, .int v1), (2, .int v2), (3, .int v3), (4, .int v4), (5, .int v5), (6, .int v6), (7, .int v7)] [] σ := by
  intro v1 v2 v3 v4 v5 v6 v7 σ h
  unfold mX12_paved_136 at h
  have h := lt_some h
  refine k_iinc (lv' := [(7, _), (0, _), (1, _), (2, _), (3, _), (4, _), (5, _), (6, _)]) K dX12_paved_136 7 rfl (v := _ + 1) (by rfl) (by rw [hn]; decide) rfl ?_
  refine k_goto (tgt := 41) K dX12_paved_139 (by decide) ?_
  exact k_sub [1, 2, 3, 4, 5, 6, 7, 0] rfl (hrc _ _ _ _ _ _ _ _ h)
set_option maxRecDepth 100000 in
set_option maxHeartbeats 4000000 in
theorem wX12_paved_134 {l : Launch} {D : va_G} {cI cZ : ClassId} {ad : Nat → Nat} {a : Program × Env × State × MethodId} {b : Array Value × List Frame × Method × Code × (State → Prop) × Nat} {A : Nat → Prop} {k142 : Int32 → Int32 → Int32 → St → Option (Int32 × St)} {rc : Int32 → Int32 → Int32 → Int32 → Int32 → Int32 → Int32 → St → Option (Int32 × St)} (K : KS (GM l 8 188 D cI cZ ad a b A) cX12_paved RX12 wsX12_paved (some .int)) (hn : x_n (GM l 8 188 D cI cZ ad a b A) = 9) {res : (Int32 × St)} (hR : HRi (GM l 8 188 D cI cZ ad a b A) cX12_paved tb res) (hk142 : ∀ (v4 : Int32) (v5 : Int32) (v6 : Int32) (σ : St), k142 v4 v5 v6 σ = some res → Wk (GM l 8 188 D cI cZ ad a b A) 142 [(0, .ref (ad 0)), (4, .int v4), (5, .int v5), (6, .int v6)] [] σ) (hrc : ∀ (v1 : Int32) (v2 : Int32) (v3 : Int32) (v4 : Int32) (v5 : Int32) (v6 : Int32) (v7 : Int32) (σ : St), rc v1 v2 v3 v4 v5 v6 v7 σ = some res → Wk (GM l 8 188 D cI cZ ad a b A) 41 [(0, .ref (ad 0)), (1, .int v1), (2, .int v2), (3, .int v3), (4, .int v4), (5, .int v5), (6, .int v6), (7, .int v7)] [] σ) : ∀ (v1 : Int32), ∀ (v2 : Int32), ∀ (v3 : Int32), ∀ (v4 : Int32), ∀ (v5 : Int32), ∀ (v7 : Int32), ∀ (t0 : Int32), ∀ (σ : St), mX12_paved_134 k142 rc v1 v2 v3 v4 v5 v7 t0 σ = some res → Wk (GM l 8 188 D cI cZ ad a b A) 134 [(0, .ref (ad 0)), (1, .int v1), (2, .int v2), (3, .int v3), (4, .int v4), (5, .int v5), (7, .int v7)] [.int t0] σ := by
  intro v1 v2 v3 v4 v5 v7 t0 σ h
  unfold mX12_paved_134 at h
  refine k_istore (lv' := [(6, _), (0, _), (1, _), (2, _), (3, _), (4, _), (5, _), (7, _)]) K dX12_paved_134 (by rw [hn]; decide) rfl ?_
  exact k_sub [1, 2, 3, 4, 5, 6, 0, 7] rfl (wX12_paved_136 K hn hR hk142 hrc _ _ _ _ _ _ _ _ h)
set_option maxRecDepth 100000 in
set_option maxHeartbeats 4000000 in
theorem wX12_paved_118 {l : Launch} {D : va_G} {cI cZ : ClassId} {ad : Nat → Nat} {a : Program × Env × State × MethodId} {b : Array Value × List Frame × Method × Code × (State → Prop) × Nat} {A : Nat → Prop} {k142 : Int32 → Int32 → Int32 → St → Option (Int32 × St)} {rc : Int32 → Int32 → Int32 → Int32 → Int32 → Int32 → Int32 → St → Option (Int32 × St)} (K : KS (GM l 8 188 D cI cZ ad a b A) cX12_paved RX12 wsX12_paved (some .int)) (hn : x_n (GM l 8 188 D cI cZ ad a b A) = 9) {res : (Int32 × St)} (hR : HRi (GM l 8 188 D cI cZ ad a b A) cX12_paved tb res) (hk142 : ∀ (v4 : Int32) (v5 : Int32) (v6 : Int32) (σ : St), k142 v4 v5 v6 σ = some res → Wk (GM l 8 188 D cI cZ ad a b A) 142 [(0, .ref (ad 0)), (4, .int v4), (5, .int v5), (6, .int v6)] [] σ) (hrc : ∀ (v1 : Int32) (v2 : Int32) (v3 : Int32) (v4 : Int32) (v5 : Int32) (v6 : Int32) (v7 : Int32) (σ : St), rc v1 v2 v3 v4 v5 v6 v7 σ = some res → Wk (GM l 8 188 D cI cZ ad a b A) 41 [(0, .ref (ad 0)), (1, .int v1), (2, .int v2), (3, .int v3), (4, .int v4), (5, .int v5), (6, .int v6), (7, .int v7)] [] σ) : ∀ (v1 : Int32), ∀ (v2 : Int32), ∀ (v3 : Int32), ∀ (v4 : Int32), ∀ (v6 : Int32), ∀ (v7 : Int32), ∀ (v8 : Int32), ∀ (t0 : Int32), ∀ (σ : St), mX12_paved_118 k142 rc v1 v2 v3 v4 v6 v7 v8 t0 σ = some res → Wk (GM l 8 188 D cI cZ ad a b A) 118 [(0, .ref (ad 0)), (1, .int v1), (2, .int v2), (3, .int v3), (4, .int v4), (6, .int v6), (7, .int v7), (8, .int v8)] [.int t0] σ := by
  intro v1 v2 v3 v4 v6 v7 v8 t0 σ h
  unfold mX12_paved_118 at h
  refine k_istore (lv' := [(5, _), (0, _), (1, _), (2, _), (3, _), (4, _), (6, _), (7, _), (8, _)]) K dX12_paved_118 (by rw [hn]; decide) rfl ?_
  refine k_iload K dX12_paved_120 8 rfl ?_
  refine k_iload K dX12_paved_122 6 rfl ?_
  refine k_icmp_le (tgt := 132) K dX12_paved_124 (by decide) (fun q => ?_) (fun q => ?_)
  · have h := if_f q h
    refine k_iload K dX12_paved_132 6 rfl ?_
    exact k_sub [1, 2, 3, 4, 5, 0, 7] rfl (wX12_paved_134 K hn hR hk142 hrc _ _ _ _ _ _ _ _ h)
  · have h := if_t q h
    refine k_iload K dX12_paved_127 8 rfl ?_
    refine k_goto (tgt := 134) K dX12_paved_129 (by decide) ?_
    exact k_sub [1, 2, 3, 4, 5, 0, 7] rfl (wX12_paved_134 K hn hR hk142 hrc _ _ _ _ _ _ _ _ h)
set_option maxRecDepth 100000 in
set_option maxHeartbeats 4000000 in
theorem wX12_paved_41 {l : Launch} {D : va_G} {cI cZ : ClassId} {ad : Nat → Nat} {a : Program × Env × State × MethodId} {b : Array Value × List Frame × Method × Code × (State → Prop) × Nat} {A : Nat → Prop} {k142 : Int32 → Int32 → Int32 → St → Option (Int32 × St)} (K : KS (GM l 8 188 D cI cZ ad a b A) cX12_paved RX12 wsX12_paved (some .int)) (hn : x_n (GM l 8 188 D cI cZ ad a b A) = 9) {res : (Int32 × St)} (hR : HRi (GM l 8 188 D cI cZ ad a b A) cX12_paved tb res) (hk142 : ∀ (v4 : Int32) (v5 : Int32) (v6 : Int32) (σ : St), k142 v4 v5 v6 σ = some res → Wk (GM l 8 188 D cI cZ ad a b A) 142 [(0, .ref (ad 0)), (4, .int v4), (5, .int v5), (6, .int v6)] [] σ) : ∀ (n : Nat) (v1 : Int32) (v2 : Int32) (v3 : Int32) (v4 : Int32) (v5 : Int32) (v6 : Int32) (v7 : Int32) (σ : St), mX12_paved_41 k142 n v1 v2 v3 v4 v5 v6 v7 σ = some res → Wk (GM l 8 188 D cI cZ ad a b A) 41 [(0, .ref (ad 0)), (1, .int v1), (2, .int v2), (3, .int v3), (4, .int v4), (5, .int v5), (6, .int v6), (7, .int v7)] [] σ := by
  intro n
  induction n with
  | zero => intro v1 v2 v3 v4 v5 v6 v7 σ h; cases h
  | succ n ih =>
    intro v1 v2 v3 v4 v5 v6 v7 σ h
    unfold mX12_paved_41 at h
    refine k_iload K dX12_paved_41 7 rfl ?_
    refine k_aload_n K dX12_paved_43 0 rfl ?_
    obtain ⟨⟨r10, s11⟩, e12, h⟩ := bd_some h
    dsimp only at h
    refine k_callVi K 0 12 (Nat.le_of_ble_eq_true rfl) ((mM_0 cI cZ ad) _) rfl (ctX12_cells e12) (cwV 0 K.ts gX12_paved_X12_cells rfl rfl rfl hVX12_cells ⟨Nat.le_of_ble_eq_true rfl, Nat.le_of_ble_eq_true rfl⟩) rfl rfl (Nat.le_of_ble_eq_true rfl) dX12_paved_44 ?_
    refine k_icmp_ge (tgt := 142) K dX12_paved_47 (by decide) (fun q => ?_) (fun q => ?_)
    · have h := if_f q h
      exact k_sub [0, 4, 5, 6] rfl (hk142 _ _ _ _ h)
    · have h := if_t q h
      refine k_aload_n K dX12_paved_50 0 rfl ?_
      refine k_get K 0 12 0 iX12_paved_X12 (Nat.le_of_ble_eq_true rfl) ((mM_0 cI cZ ad) _) rfl (by decide) fX12_paved_7 rfl dX12_paved_51 ?_
      refine k_iconst (x := 1) K dX12_paved_54 (by decide) ?_
      refine k_iload K dX12_paved_55 7 rfl ?_
      refine k_iadd K dX12_paved_57 ?_
      obtain ⟨g16, h⟩ := gd_some h
      refine k_ild K 1 0 (Nat.le_of_ble_eq_true rfl) ((mM_1 cI cZ ad) _) rfl g16 dX12_paved_58 ?_
      refine k_if_le (tgt := 136) K dX12_paved_59 (by decide) (fun q => ?_) (fun q => ?_)
      · have h := if_f q h
        exact k_sub [0, 1, 2, 3, 4, 5, 6, 7] rfl (wX12_paved_136 K hn hR hk142 ih _ _ _ _ _ _ _ _ h)
      · have h := if_t q h
        refine k_aload_n K dX12_paved_62 0 rfl ?_
        refine k_get K 0 12 0 iX12_paved_X12 (Nat.le_of_ble_eq_true rfl) ((mM_0 cI cZ ad) _) rfl (by decide) fX12_paved_7 rfl dX12_paved_63 ?_
        refine k_iconst (x := 1) K dX12_paved_66 (by decide) ?_
        refine k_iload K dX12_paved_67 7 rfl ?_
        refine k_iadd K dX12_paved_69 ?_
        refine k_dup2 K dX12_paved_70 rfl rfl ?_
        obtain ⟨g18, h⟩ := gd_some h
        refine k_ild K 1 0 (Nat.le_of_ble_eq_true rfl) ((mM_1 cI cZ ad) _) rfl g18 dX12_paved_71 ?_
        refine k_iconst (x := 1) K dX12_paved_72 (by decide) ?_
        refine k_isub K dX12_paved_73 ?_
        obtain ⟨g19, h⟩ := gd_some h
        have h := lt_some h
        refine k_ist K 1 0 (Nat.le_of_ble_eq_true rfl) (mM_1 cI cZ ad) rfl g19 dX12_paved_74 ?_
        refine k_aload_n K dX12_paved_75 0 rfl ?_
        refine k_iload_n K dX12_paved_76 1 rfl ?_
        refine k_aload_n K dX12_paved_77 0 rfl ?_
        refine k_iload_n K dX12_paved_78 2 rfl ?_
        refine k_iload_n K dX12_paved_79 3 rfl ?_
        obtain ⟨⟨r21, s22⟩, e23, h⟩ := bd_some h
        dsimp only at h
        refine k_callVi K 0 12 (Nat.le_of_ble_eq_true rfl) ((mM_0 cI cZ ad) _) rfl (ctX12_bit e23) (cwV 2 K.ts gX12_paved_X12_bit rfl rfl rfl hVX12_bit ⟨Nat.le_of_ble_eq_true rfl, Nat.le_of_ble_eq_true rfl⟩) rfl rfl (Nat.le_of_ble_eq_true rfl) dX12_paved_80 ?_
        obtain ⟨⟨r24, s25⟩, e26, h⟩ := bd_some h
        dsimp only at h
        refine k_callVi K 0 12 (Nat.le_of_ble_eq_true rfl) ((mM_0 cI cZ ad) _) rfl (ctX12_doorsOf e26) (cwV 2 K.ts gX12_paved_X12_doorsOf rfl rfl rfl hVX12_doorsOf ⟨Nat.le_of_ble_eq_true rfl, Nat.le_of_ble_eq_true rfl⟩) rfl rfl (Nat.le_of_ble_eq_true rfl) dX12_paved_83 ?_
        obtain ⟨⟨r27, s28⟩, e29, h⟩ := bd_some h
        dsimp only at h
        refine k_callSi K (ctX12_bits e29) (va_cwS 1 K.ts gX12_paved_X12_bits rfl rfl rfl hSX12_bits ⟨Nat.le_of_ble_eq_true rfl, Nat.le_of_ble_eq_true rfl⟩) rfl rfl (Nat.le_of_ble_eq_true rfl) dX12_paved_86 ?_
        refine k_istore (lv' := [(8, _), (0, _), (1, _), (2, _), (3, _), (4, _), (5, _), (6, _), (7, _)]) K dX12_paved_89 (by rw [hn]; decide) rfl ?_
        refine k_aload_n K dX12_paved_91 1 rfl ?_
        refine k_get K 0 12 0 iX12_paved_X12 (Nat.le_of_ble_eq_true rfl) ((mM_0 cI cZ ad) _) rfl (by decide) fX12_paved_7 rfl dX12_paved_92 ?_
        refine k_iconst (x := 1) K dX12_paved_95 (by decide) ?_
        refine k_iload K dX12_paved_96 8 rfl ?_
        refine k_iadd K dX12_paved_98 ?_
        refine k_dup2 K dX12_paved_99 rfl rfl ?_
        obtain ⟨g30, h⟩ := gd_some h
        refine k_ild K 1 0 (Nat.le_of_ble_eq_true rfl) ((mM_1 cI cZ ad) _) rfl g30 dX12_paved_100 ?_
        refine k_iconst (x := 1) K dX12_paved_101 (by decide) ?_
        refine k_iadd K dX12_paved_102 ?_
        obtain ⟨g31, h⟩ := gd_some h
        have h := lt_some h
        refine k_ist K 1 0 (Nat.le_of_ble_eq_true rfl) (mM_1 cI cZ ad) rfl g31 dX12_paved_103 ?_
        refine k_iload K dX12_paved_104 0 rfl ?_
        refine k_iload K dX12_paved_106 7 rfl ?_
        refine k_icmp_le (tgt := 116) K dX12_paved_108 (by decide) (fun q => ?_) (fun q => ?_)
        · have h := if_f q h
          refine k_iload K dX12_paved_116 6 rfl ?_
          exact k_sub [1, 2, 3, 4, 5, 7, 8, 0] rfl (wX12_paved_118 K hn hR hk142 ih _ _ _ _ _ _ _ _ _ h)
        · have h := if_t q h
          refine k_iload K dX12_paved_111 8 rfl ?_
          refine k_goto (tgt := 118) K dX12_paved_113 (by decide) ?_
          exact k_sub [1, 2, 3, 4, 5, 7, 8, 0] rfl (wX12_paved_118 K hn hR hk142 ih _ _ _ _ _ _ _ _ _ h)
set_option maxRecDepth 100000 in
set_option maxHeartbeats 4000000 in
theorem ctX12_paved {l : Launch} {D : va_G} {cI cZ : ClassId} {ad : Nat → Nat} {v1 : Int32} {v2 : Int32} {v3 : Int32} {v4 : Int32} {σ : St} {res : (Int32 × St)} (h : mX12_paved v1 v2 v3 v4 σ = some res) : Ci l yX12_paved wsX12_paved 8 188 D vwCl (tysM cI cZ) nwM (mkM cI cZ ad) ad 17 [.ref (ad 0), .int v1, .int v2, .int v3, .int v4] σ res := by
  refine c_int (cc := cX12_paved) (maxL := 9) (by decide) rfl (Nat.le_of_ble_eq_true rfl) fun a b hn K hR => ?_
  unfold mX12_paved at h
  have K : KS (GM l 8 188 D cI cZ ad a b (w_A ad 17)) cX12_paved RX12 wsX12_paved (some .int) := K
  have hn : x_n (GM l 8 188 D cI cZ ad a b (w_A ad 17)) = 9 := hn
  refine k_sub [0, 1, 2, 3, 4] rfl ?_
  refine k_aload_n K dX12_paved_0 0 rfl ?_
  refine k_iload_n K dX12_paved_1 1 rfl ?_
  obtain ⟨⟨r1, s2⟩, e3, h⟩ := bd_some h
  dsimp only at h
  refine k_callVi K 0 12 (Nat.le_of_ble_eq_true rfl) ((mM_0 cI cZ ad) _) rfl (ctX12_isKind e3) (cwV 1 K.ts gX12_paved_X12_isKind rfl rfl rfl hVX12_isKind ⟨Nat.le_of_ble_eq_true rfl, Nat.le_of_ble_eq_true rfl⟩) rfl rfl (Nat.le_of_ble_eq_true rfl) dX12_paved_2 ?_
  refine k_if_eq (tgt := 28) K dX12_paved_5 (by decide) (fun q => ?_) (fun q => ?_)
  · have h := if_t q h
    refine k_iconst (x := (-1)) K dX12_paved_28 (by decide) ?_
    exact ret_i hR h dX12_paved_29 trivial
  · have h := if_f q h
    refine k_aload_n K dX12_paved_8 0 rfl ?_
    refine k_iload_n K dX12_paved_9 2 rfl ?_
    refine k_iload_n K dX12_paved_10 3 rfl ?_
    obtain ⟨⟨r4, s5⟩, e6, h⟩ := bd_some h
    dsimp only at h
    refine k_callVi K 0 12 (Nat.le_of_ble_eq_true rfl) ((mM_0 cI cZ ad) _) rfl (ctX12_isCell e6) (cwV 2 K.ts gX12_paved_X12_isCell rfl rfl rfl hVX12_isCell ⟨Nat.le_of_ble_eq_true rfl, Nat.le_of_ble_eq_true rfl⟩) rfl rfl (Nat.le_of_ble_eq_true rfl) dX12_paved_11 ?_
    refine k_if_eq (tgt := 28) K dX12_paved_14 (by decide) (fun q => ?_) (fun q => ?_)
    · have h := if_t q h
      refine k_iconst (x := (-1)) K dX12_paved_28 (by decide) ?_
      exact ret_i hR h dX12_paved_29 trivial
    · have h := if_f q h
      refine k_iload K dX12_paved_17 4 rfl ?_
      refine k_i2l K dX12_paved_19 ?_
      refine k_lconst (v := 0) K dX12_paved_20 (by decide) ?_
      refine k_lconst (v := 1) K dX12_paved_21 (by decide) ?_
      obtain ⟨⟨r7, s8⟩, e9, h⟩ := bd_some h
      dsimp only at h
      refine k_callSi K (ctX12_in e9) (va_cwS 3 K.ts gX12_paved_X12_in rfl rfl rfl hSX12_in ⟨Nat.le_of_ble_eq_true rfl, Nat.le_of_ble_eq_true rfl⟩) rfl rfl (Nat.le_of_ble_eq_true rfl) dX12_paved_22 ?_
      refine k_if_ne (tgt := 30) K dX12_paved_25 (by decide) (fun q => ?_) (fun q => ?_)
      · have h := if_f q h
        refine k_bipush (x := (-9)) K dX12_paved_30 (by decide) ?_
        refine k_istore (lv' := [(5, _), (0, _), (1, _), (2, _), (3, _), (4, _)]) K dX12_paved_32 (by rw [hn]; decide) rfl ?_
        refine k_bipush (x := (-9)) K dX12_paved_34 (by decide) ?_
        refine k_istore (lv' := [(6, _), (5, _), (0, _), (1, _), (2, _), (3, _), (4, _)]) K dX12_paved_36 (by rw [hn]; decide) rfl ?_
        refine k_iconst (x := 0) K dX12_paved_38 (by decide) ?_
        refine k_istore (lv' := [(7, _), (6, _), (5, _), (0, _), (1, _), (2, _), (3, _), (4, _)]) K dX12_paved_39 (by rw [hn]; decide) rfl ?_
        exact k_sub [3, 4, 5, 6, 7, 2, 1, 0] rfl (wX12_paved_41 K hn hR (fun v4 v5 v6 σ h => wX12_paved_142 K hn hR v4 v5 v6 σ h) FU _ _ _ _ _ _ _ _ h)
      · have h := if_t q h
        refine k_iconst (x := (-1)) K dX12_paved_28 (by decide) ?_
        exact ret_i hR h dX12_paved_29 trivial
-- X12_rain (5, 120)
theorem iX12_rain_X12 : ∀ w ∈ wsX120, w ∈ wsX12_rain := fun _ h => List.mem_cons_of_mem _ (List.mem_append_right _ h)
theorem fX12_rain_200 : Cond.fieldLink RX12 200 "SlopeCoinsModel" "ended" "I" ∈ wsX12_rain := by decide +kernel
set_option maxRecDepth 100000 in
set_option maxHeartbeats 4000000 in
theorem wX12_rain_112 {l : Launch} {D : va_G} {cI cZ : ClassId} {ad : Nat → Nat} {a : Program × Env × State × MethodId} {b : Array Value × List Frame × Method × Code × (State → Prop) × Nat} {A : Nat → Prop} (K : KS (GM l 5 120 D cI cZ ad a b A) cX12_rain RX12 wsX12_rain (some .int)) (hn : x_n (GM l 5 120 D cI cZ ad a b A) = 7) {res : (Int32 × St)} (hR : HRi (GM l 5 120 D cI cZ ad a b A) cX12_rain tb res) : ∀ (v1 : Int32), ∀ (v2 : Int32), ∀ (v3 : Int32), ∀ (σ : St), mX12_rain_112 v1 v2 v3 σ = some res → Wk (GM l 5 120 D cI cZ ad a b A) 112 [(0, .ref (ad 0)), (1, .int v1), (2, .int v2), (3, .int v3)] [] σ := by
  intro v1 v2 v3 σ h
  unfold mX12_rain_112 at h
  refine k_iload_n K dX12_rain_112 1 rfl ?_
  refine k_iconst (x := 1) K dX12_rain_113 (by decide) ?_
  refine k_icmp_ne (tgt := 121) K dX12_rain_114 (by decide) (fun q => ?_) (fun q => ?_)
  · have h := if_f q h
    refine k_iload_n K dX12_rain_121 2 rfl ?_
    refine k_bipush (x := (-9)) K dX12_rain_122 (by decide) ?_
    refine k_icmp_ne (tgt := 132) K dX12_rain_124 (by decide) (fun q => ?_) (fun q => ?_)
    · have h := if_f q h
      refine k_aload_n K dX12_rain_132 0 rfl ?_
      refine k_iload_n K dX12_rain_133 2 rfl ?_
      obtain ⟨⟨r7, s8⟩, e9, h⟩ := bd_some h
      dsimp only at h
      refine k_callVi K 0 12 (Nat.le_of_ble_eq_true rfl) ((mM_0 cI cZ ad) _) rfl (ctX12_pairOf e9) (cwV 1 K.ts gX12_rain_X12_pairOf rfl rfl rfl hVX12_pairOf ⟨Nat.le_of_ble_eq_true rfl, Nat.le_of_ble_eq_true rfl⟩) rfl rfl (Nat.le_of_ble_eq_true rfl) dX12_rain_134 ?_
      exact ret_i hR h dX12_rain_137 trivial
    · have h := if_t q h
      refine k_bipush (x := (-9)) K dX12_rain_127 (by decide) ?_
      refine k_goto (tgt := 137) K dX12_rain_129 (by decide) ?_
      exact ret_i hR h dX12_rain_137 trivial
  · have h := if_t q h
    refine k_iload_n K dX12_rain_117 3 rfl ?_
    refine k_goto (tgt := 137) K dX12_rain_118 (by decide) ?_
    exact ret_i hR h dX12_rain_137 trivial
set_option maxRecDepth 100000 in
set_option maxHeartbeats 4000000 in
theorem wX12_rain_105 {l : Launch} {D : va_G} {cI cZ : ClassId} {ad : Nat → Nat} {a : Program × Env × State × MethodId} {b : Array Value × List Frame × Method × Code × (State → Prop) × Nat} {A : Nat → Prop} {k112 : Int32 → Int32 → Int32 → St → Option (Int32 × St)} {rc : Int32 → Int32 → Int32 → Int32 → St → Option (Int32 × St)} (K : KS (GM l 5 120 D cI cZ ad a b A) cX12_rain RX12 wsX12_rain (some .int)) (hn : x_n (GM l 5 120 D cI cZ ad a b A) = 7) {res : (Int32 × St)} (hR : HRi (GM l 5 120 D cI cZ ad a b A) cX12_rain tb res) (hk112 : ∀ (v1 : Int32) (v2 : Int32) (v3 : Int32) (σ : St), k112 v1 v2 v3 σ = some res → Wk (GM l 5 120 D cI cZ ad a b A) 112 [(0, .ref (ad 0)), (1, .int v1), (2, .int v2), (3, .int v3)] [] σ) (hrc : ∀ (v1 : Int32) (v2 : Int32) (v3 : Int32) (v4 : Int32) (σ : St), rc v1 v2 v3 v4 σ = some res → Wk (GM l 5 120 D cI cZ ad a b A) 20 [(0, .ref (ad 0)), (1, .int v1), (2, .int v2), (3, .int v3), (4, .int v4)] [] σ) : ∀ (v1 : Int32), ∀ (v2 : Int32), ∀ (v4 : Int32), ∀ (t0 : Int32), ∀ (σ : St), mX12_rain_105 k112 rc v1 v2 v4 t0 σ = some res → Wk (GM l 5 120 D cI cZ ad a b A) 105 [(0, .ref (ad 0)), (1, .int v1), (2, .int v2), (4, .int v4)] [.int t0] σ := by
  intro v1 v2 v4 t0 σ h
  unfold mX12_rain_105 at h
  refine k_istore_n (lv' := [(3, _), (0, _), (1, _), (2, _), (4, _)]) K dX12_rain_105 (by rw [hn]; decide) rfl ?_
  have h := lt_some h
  refine k_iinc (lv' := [(4, _), (3, _), (0, _), (1, _), (2, _)]) K dX12_rain_106 4 rfl (v := _ + 1) (by rfl) (by rw [hn]; decide) rfl ?_
  refine k_goto (tgt := 20) K dX12_rain_109 (by decide) ?_
  exact k_sub [2, 3, 4, 1, 0] rfl (hrc _ _ _ _ _ h)
set_option maxRecDepth 100000 in
set_option maxHeartbeats 4000000 in
theorem wX12_rain_92 {l : Launch} {D : va_G} {cI cZ : ClassId} {ad : Nat → Nat} {a : Program × Env × State × MethodId} {b : Array Value × List Frame × Method × Code × (State → Prop) × Nat} {A : Nat → Prop} {k112 : Int32 → Int32 → Int32 → St → Option (Int32 × St)} {rc : Int32 → Int32 → Int32 → Int32 → St → Option (Int32 × St)} (K : KS (GM l 5 120 D cI cZ ad a b A) cX12_rain RX12 wsX12_rain (some .int)) (hn : x_n (GM l 5 120 D cI cZ ad a b A) = 7) {res : (Int32 × St)} (hR : HRi (GM l 5 120 D cI cZ ad a b A) cX12_rain tb res) (hk112 : ∀ (v1 : Int32) (v2 : Int32) (v3 : Int32) (σ : St), k112 v1 v2 v3 σ = some res → Wk (GM l 5 120 D cI cZ ad a b A) 112 [(0, .ref (ad 0)), (1, .int v1), (2, .int v2), (3, .int v3)] [] σ) (hrc : ∀ (v1 : Int32) (v2 : Int32) (v3 : Int32) (v4 : Int32) (σ : St), rc v1 v2 v3 v4 σ = some res → Wk (GM l 5 120 D cI cZ ad a b A) 20 [(0, .ref (ad 0)), (1, .int v1), (2, .int v2), (3, .int v3), (4, .int v4)] [] σ) : ∀ (v1 : Int32), ∀ (v3 : Int32), ∀ (v4 : Int32), ∀ (v5 : Int32), ∀ (t0 : Int32), ∀ (σ : St), mX12_rain_92 k112 rc v1 v3 v4 v5 t0 σ = some res → Wk (GM l 5 120 D cI cZ ad a b A) 92 [(0, .ref (ad 0)), (1, .int v1), (3, .int v3), (4, .int v4), (5, .int v5)] [.int t0] σ := by
  intro v1 v3 v4 v5 t0 σ h
  unfold mX12_rain_92 at h
  refine k_istore_n (lv' := [(2, _), (0, _), (1, _), (3, _), (4, _), (5, _)]) K dX12_rain_92 (by rw [hn]; decide) rfl ?_
  refine k_iload K dX12_rain_93 5 rfl ?_
  refine k_iload_n K dX12_rain_95 3 rfl ?_
  refine k_icmp_le (tgt := 104) K dX12_rain_96 (by decide) (fun q => ?_) (fun q => ?_)
  · have h := if_f q h
    refine k_iload_n K dX12_rain_104 3 rfl ?_
    exact k_sub [1, 2, 0, 4] rfl (wX12_rain_105 K hn hR hk112 hrc _ _ _ _ _ h)
  · have h := if_t q h
    refine k_iload K dX12_rain_99 5 rfl ?_
    refine k_goto (tgt := 105) K dX12_rain_101 (by decide) ?_
    exact k_sub [1, 2, 0, 4] rfl (wX12_rain_105 K hn hR hk112 hrc _ _ _ _ _ h)
set_option maxRecDepth 100000 in
set_option maxHeartbeats 4000000 in
theorem wX12_rain_80 {l : Launch} {D : va_G} {cI cZ : ClassId} {ad : Nat → Nat} {a : Program × Env × State × MethodId} {b : Array Value × List Frame × Method × Code × (State → Prop) × Nat} {A : Nat → Prop} {k112 : Int32 → Int32 → Int32 → St → Option (Int32 × St)} {rc : Int32 → Int32 → Int32 → Int32 → St → Option (Int32 × St)} (K : KS (GM l 5 120 D cI cZ ad a b A) cX12_rain RX12 wsX12_rain (some .int)) (hn : x_n (GM l 5 120 D cI cZ ad a b A) = 7) {res : (Int32 × St)} (hR : HRi (GM l 5 120 D cI cZ ad a b A) cX12_rain tb res) (hk112 : ∀ (v1 : Int32) (v2 : Int32) (v3 : Int32) (σ : St), k112 v1 v2 v3 σ = some res → Wk (GM l 5 120 D cI cZ ad a b A) 112 [(0, .ref (ad 0)), (1, .int v1), (2, .int v2), (3, .int v3)] [] σ) (hrc : ∀ (v1 : Int32) (v2 : Int32) (v3 : Int32) (v4 : Int32) (σ : St), rc v1 v2 v3 v4 σ = some res → Wk (GM l 5 120 D cI cZ ad a b A) 20 [(0, .ref (ad 0)), (1, .int v1), (2, .int v2), (3, .int v3), (4, .int v4)] [] σ) : ∀ (v1 : Int32), ∀ (v2 : Int32), ∀ (v3 : Int32), ∀ (v4 : Int32), ∀ (v5 : Int32), ∀ (σ : St), mX12_rain_80 k112 rc v1 v2 v3 v4 v5 σ = some res → Wk (GM l 5 120 D cI cZ ad a b A) 80 [(0, .ref (ad 0)), (1, .int v1), (2, .int v2), (3, .int v3), (4, .int v4), (5, .int v5)] [] σ := by
  intro v1 v2 v3 v4 v5 σ h
  unfold mX12_rain_80 at h
  refine k_iload K dX12_rain_80 5 rfl ?_
  refine k_iload_n K dX12_rain_82 3 rfl ?_
  refine k_icmp_le (tgt := 91) K dX12_rain_83 (by decide) (fun q => ?_) (fun q => ?_)
  · have h := if_f q h
    refine k_iload_n K dX12_rain_91 2 rfl ?_
    exact k_sub [0, 1, 3, 4, 5] rfl (wX12_rain_92 K hn hR hk112 hrc _ _ _ _ _ _ h)
  · have h := if_t q h
    refine k_iload K dX12_rain_86 4 rfl ?_
    refine k_goto (tgt := 92) K dX12_rain_88 (by decide) ?_
    exact k_sub [0, 1, 3, 4, 5] rfl (wX12_rain_92 K hn hR hk112 hrc _ _ _ _ _ _ h)
set_option maxRecDepth 100000 in
set_option maxHeartbeats 4000000 in
theorem wX12_rain_71 {l : Launch} {D : va_G} {cI cZ : ClassId} {ad : Nat → Nat} {a : Program × Env × State × MethodId} {b : Array Value × List Frame × Method × Code × (State → Prop) × Nat} {A : Nat → Prop} {k80 : Int32 → Int32 → Int32 → Int32 → Int32 → St → Option (Int32 × St)} {rc : Int32 → Int32 → Int32 → Int32 → Int32 → Int32 → St → Option (Int32 × St)} (K : KS (GM l 5 120 D cI cZ ad a b A) cX12_rain RX12 wsX12_rain (some .int)) (hn : x_n (GM l 5 120 D cI cZ ad a b A) = 7) {res : (Int32 × St)} (hR : HRi (GM l 5 120 D cI cZ ad a b A) cX12_rain tb res) (hk80 : ∀ (v1 : Int32) (v2 : Int32) (v3 : Int32) (v4 : Int32) (v5 : Int32) (σ : St), k80 v1 v2 v3 v4 v5 σ = some res → Wk (GM l 5 120 D cI cZ ad a b A) 80 [(0, .ref (ad 0)), (1, .int v1), (2, .int v2), (3, .int v3), (4, .int v4), (5, .int v5)] [] σ) (hrc : ∀ (v1 : Int32) (v2 : Int32) (v3 : Int32) (v4 : Int32) (v5 : Int32) (v6 : Int32) (σ : St), rc v1 v2 v3 v4 v5 v6 σ = some res → Wk (GM l 5 120 D cI cZ ad a b A) 35 [(0, .ref (ad 0)), (1, .int v1), (2, .int v2), (3, .int v3), (4, .int v4), (5, .int v5), (6, .int v6)] [] σ) : ∀ (v1 : Int32), ∀ (v2 : Int32), ∀ (v3 : Int32), ∀ (v4 : Int32), ∀ (v6 : Int32), ∀ (t0 : Int32), ∀ (t1 : Int32), ∀ (σ : St), mX12_rain_71 k80 rc v1 v2 v3 v4 v6 t0 t1 σ = some res → Wk (GM l 5 120 D cI cZ ad a b A) 71 [(0, .ref (ad 0)), (1, .int v1), (2, .int v2), (3, .int v3), (4, .int v4), (6, .int v6)] [.int t0, .int t1] σ := by
  intro v1 v2 v3 v4 v6 t0 t1 σ h
  unfold mX12_rain_71 at h
  refine k_iadd K dX12_rain_71 ?_
  have h := lt_some h
  refine k_istore (lv' := [(5, _), (0, _), (1, _), (2, _), (3, _), (4, _), (6, _)]) K dX12_rain_72 (by rw [hn]; decide) rfl ?_
  have h := lt_some h
  refine k_iinc (lv' := [(6, _), (5, _), (0, _), (1, _), (2, _), (3, _), (4, _)]) K dX12_rain_74 6 rfl (v := _ + 1) (by rfl) (by rw [hn]; decide) rfl ?_
  refine k_goto (tgt := 35) K dX12_rain_77 (by decide) ?_
  exact k_sub [2, 3, 4, 5, 6, 1, 0] rfl (hrc _ _ _ _ _ _ _ h)
set_option maxRecDepth 100000 in
set_option maxHeartbeats 4000000 in
theorem wX12_rain_35 {l : Launch} {D : va_G} {cI cZ : ClassId} {ad : Nat → Nat} {a : Program × Env × State × MethodId} {b : Array Value × List Frame × Method × Code × (State → Prop) × Nat} {A : Nat → Prop} {k80 : Int32 → Int32 → Int32 → Int32 → Int32 → St → Option (Int32 × St)} (K : KS (GM l 5 120 D cI cZ ad a b A) cX12_rain RX12 wsX12_rain (some .int)) (hn : x_n (GM l 5 120 D cI cZ ad a b A) = 7) {res : (Int32 × St)} (hR : HRi (GM l 5 120 D cI cZ ad a b A) cX12_rain tb res) (hk80 : ∀ (v1 : Int32) (v2 : Int32) (v3 : Int32) (v4 : Int32) (v5 : Int32) (σ : St), k80 v1 v2 v3 v4 v5 σ = some res → Wk (GM l 5 120 D cI cZ ad a b A) 80 [(0, .ref (ad 0)), (1, .int v1), (2, .int v2), (3, .int v3), (4, .int v4), (5, .int v5)] [] σ) : ∀ (n : Nat) (v1 : Int32) (v2 : Int32) (v3 : Int32) (v4 : Int32) (v5 : Int32) (v6 : Int32) (σ : St), mX12_rain_35 k80 n v1 v2 v3 v4 v5 v6 σ = some res → Wk (GM l 5 120 D cI cZ ad a b A) 35 [(0, .ref (ad 0)), (1, .int v1), (2, .int v2), (3, .int v3), (4, .int v4), (5, .int v5), (6, .int v6)] [] σ := by
  intro n
  induction n with
  | zero => intro v1 v2 v3 v4 v5 v6 σ h; cases h
  | succ n ih =>
    intro v1 v2 v3 v4 v5 v6 σ h
    unfold mX12_rain_35 at h
    refine k_iload K dX12_rain_35 6 rfl ?_
    refine k_aload_n K dX12_rain_37 0 rfl ?_
    obtain ⟨⟨r10, s11⟩, e12, h⟩ := bd_some h
    dsimp only at h
    refine k_callVi K 0 12 (Nat.le_of_ble_eq_true rfl) ((mM_0 cI cZ ad) _) rfl (ctX12_cells e12) (cwV 0 K.ts gX12_rain_X12_cells rfl rfl rfl hVX12_cells ⟨Nat.le_of_ble_eq_true rfl, Nat.le_of_ble_eq_true rfl⟩) rfl rfl (Nat.le_of_ble_eq_true rfl) dX12_rain_38 ?_
    refine k_icmp_ge (tgt := 80) K dX12_rain_41 (by decide) (fun q => ?_) (fun q => ?_)
    · have h := if_f q h
      exact k_sub [0, 1, 2, 3, 4, 5] rfl (hk80 _ _ _ _ _ _ h)
    · have h := if_t q h
      refine k_aload_n K dX12_rain_44 0 rfl ?_
      refine k_iconst (x := 1) K dX12_rain_45 (by decide) ?_
      refine k_iconst (x := 0) K dX12_rain_46 (by decide) ?_
      refine k_iload K dX12_rain_47 6 rfl ?_
      obtain ⟨⟨r14, s15⟩, e16, h⟩ := bd_some h
      dsimp only at h
      refine k_callVv K 0 12 (Nat.le_of_ble_eq_true rfl) ((mM_0 cI cZ ad) _) rfl (ctX12_roll e16) (cwV 3 K.ts gX12_rain_X12_roll rfl rfl rfl hVX12_roll ⟨Nat.le_of_ble_eq_true rfl, Nat.le_of_ble_eq_true rfl⟩) rfl rfl (Nat.le_of_ble_eq_true rfl) dX12_rain_49 ?_
      refine k_iload K dX12_rain_52 5 rfl ?_
      refine k_aload_n K dX12_rain_54 0 rfl ?_
      refine k_get K 0 12 32 iX12_rain_X12 (Nat.le_of_ble_eq_true rfl) ((mM_0 cI cZ ad) _) rfl (by decide) fX12_rain_200 rfl dX12_rain_55 ?_
      refine k_bipush (x := 100) K dX12_rain_58 (by decide) ?_
      refine k_irem K dX12_rain_60 (by decide) ?_
      refine k_iload K dX12_rain_61 4 rfl ?_
      refine k_icmp_ne (tgt := 70) K dX12_rain_63 (by decide) (fun q => ?_) (fun q => ?_)
      · have h := if_f q h
        refine k_iconst (x := 0) K dX12_rain_70 (by decide) ?_
        exact k_sub [0, 1, 2, 3, 4, 6] rfl (wX12_rain_71 K hn hR hk80 ih _ _ _ _ _ _ _ _ h)
      · have h := if_t q h
        refine k_iconst (x := 1) K dX12_rain_66 (by decide) ?_
        refine k_goto (tgt := 71) K dX12_rain_67 (by decide) ?_
        exact k_sub [0, 1, 2, 3, 4, 6] rfl (wX12_rain_71 K hn hR hk80 ih _ _ _ _ _ _ _ _ h)
set_option maxRecDepth 100000 in
set_option maxHeartbeats 4000000 in
theorem wX12_rain_20 {l : Launch} {D : va_G} {cI cZ : ClassId} {ad : Nat → Nat} {a : Program × Env × State × MethodId} {b : Array Value × List Frame × Method × Code × (State → Prop) × Nat} {A : Nat → Prop} {k112 : Int32 → Int32 → Int32 → St → Option (Int32 × St)} (K : KS (GM l 5 120 D cI cZ ad a b A) cX12_rain RX12 wsX12_rain (some .int)) (hn : x_n (GM l 5 120 D cI cZ ad a b A) = 7) {res : (Int32 × St)} (hR : HRi (GM l 5 120 D cI cZ ad a b A) cX12_rain tb res) (hk112 : ∀ (v1 : Int32) (v2 : Int32) (v3 : Int32) (σ : St), k112 v1 v2 v3 σ = some res → Wk (GM l 5 120 D cI cZ ad a b A) 112 [(0, .ref (ad 0)), (1, .int v1), (2, .int v2), (3, .int v3)] [] σ) : ∀ (n : Nat) (v1 : Int32) (v2 : Int32) (v3 : Int32) (v4 : Int32) (σ : St), mX12_rain_20 k112 n v1 v2 v3 v4 σ = some res → Wk (GM l 5 120 D cI cZ ad a b A) 20 [(0, .ref (ad 0)), (1, .int v1), (2, .int v2), (3, .int v3), (4, .int v4)] [] σ := by
  intro n
  induction n with
  | zero => intro v1 v2 v3 v4 σ h; cases h
  | succ n ih =>
    intro v1 v2 v3 v4 σ h
    unfold mX12_rain_20 at h
    refine k_iload K dX12_rain_20 4 rfl ?_
    refine k_aload_n K dX12_rain_22 0 rfl ?_
    obtain ⟨⟨r4, s5⟩, e6, h⟩ := bd_some h
    dsimp only at h
    refine k_callVi K 0 12 (Nat.le_of_ble_eq_true rfl) ((mM_0 cI cZ ad) _) rfl (ctX12_cells e6) (cwV 0 K.ts gX12_rain_X12_cells rfl rfl rfl hVX12_cells ⟨Nat.le_of_ble_eq_true rfl, Nat.le_of_ble_eq_true rfl⟩) rfl rfl (Nat.le_of_ble_eq_true rfl) dX12_rain_23 ?_
    refine k_icmp_ge (tgt := 112) K dX12_rain_26 (by decide) (fun q => ?_) (fun q => ?_)
    · have h := if_f q h
      exact k_sub [0, 1, 2, 3] rfl (hk112 _ _ _ _ h)
    · have h := if_t q h
      refine k_iconst (x := 0) K dX12_rain_29 (by decide) ?_
      refine k_istore (lv' := [(5, _), (0, _), (1, _), (2, _), (3, _), (4, _)]) K dX12_rain_30 (by rw [hn]; decide) rfl ?_
      refine k_iconst (x := 0) K dX12_rain_32 (by decide) ?_
      refine k_istore (lv' := [(6, _), (5, _), (0, _), (1, _), (2, _), (3, _), (4, _)]) K dX12_rain_33 (by rw [hn]; decide) rfl ?_
      exact k_sub [2, 3, 4, 5, 6, 1, 0] rfl (wX12_rain_35 K hn hR (fun v1 v2 v3 v4 v5 σ h => wX12_rain_80 K hn hR hk112 ih v1 v2 v3 v4 v5 σ h) FU _ _ _ _ _ _ _ h)
set_option maxRecDepth 100000 in
set_option maxHeartbeats 4000000 in
theorem ctX12_rain {l : Launch} {D : va_G} {cI cZ : ClassId} {ad : Nat → Nat} {v1 : Int32} {σ : St} {res : (Int32 × St)} (h : mX12_rain v1 σ = some res) : Ci l yX12_rain wsX12_rain 5 120 D vwCl (tysM cI cZ) nwM (mkM cI cZ ad) ad 17 [.ref (ad 0), .int v1] σ res := by
  refine c_int (cc := cX12_rain) (maxL := 7) (by decide) rfl (Nat.le_of_ble_eq_true rfl) fun a b hn K hR => ?_
  unfold mX12_rain at h
  have K : KS (GM l 5 120 D cI cZ ad a b (w_A ad 17)) cX12_rain RX12 wsX12_rain (some .int) := K
  have hn : x_n (GM l 5 120 D cI cZ ad a b (w_A ad 17)) = 7 := hn
  refine k_sub [0, 1] rfl ?_
  refine k_iload_n K dX12_rain_0 1 rfl ?_
  refine k_i2l K dX12_rain_1 ?_
  refine k_lconst (v := 0) K dX12_rain_2 (by decide) ?_
  refine k_lconst (v := 1) K dX12_rain_3 (by decide) ?_
  obtain ⟨⟨r1, s2⟩, e3, h⟩ := bd_some h
  dsimp only at h
  refine k_callSi K (ctX12_in e3) (va_cwS 3 K.ts gX12_rain_X12_in rfl rfl rfl hSX12_in ⟨Nat.le_of_ble_eq_true rfl, Nat.le_of_ble_eq_true rfl⟩) rfl rfl (Nat.le_of_ble_eq_true rfl) dX12_rain_4 ?_
  refine k_if_ne (tgt := 12) K dX12_rain_7 (by decide) (fun q => ?_) (fun q => ?_)
  · have h := if_f q h
    refine k_bipush (x := (-9)) K dX12_rain_12 (by decide) ?_
    refine k_istore_n (lv' := [(2, _), (0, _), (1, _)]) K dX12_rain_14 (by rw [hn]; decide) rfl ?_
    refine k_iconst (x := 0) K dX12_rain_15 (by decide) ?_
    refine k_istore_n (lv' := [(3, _), (2, _), (0, _), (1, _)]) K dX12_rain_16 (by rw [hn]; decide) rfl ?_
    refine k_iconst (x := 0) K dX12_rain_17 (by decide) ?_
    refine k_istore (lv' := [(4, _), (3, _), (2, _), (0, _), (1, _)]) K dX12_rain_18 (by rw [hn]; decide) rfl ?_
    exact k_sub [3, 4, 2, 1, 0] rfl (wX12_rain_20 K hn hR (fun v1 v2 v3 σ h => wX12_rain_112 K hn hR v1 v2 v3 σ h) FU _ _ _ _ _ h)
  · have h := if_t q h
    refine k_iconst (x := (-1)) K dX12_rain_10 (by decide) ?_
    exact ret_i hR h dX12_rain_11 trivial
-- X12_divisor (0, 0)
set_option maxRecDepth 100000 in
set_option maxHeartbeats 4000000 in
theorem wX12_divisor_4 {l : Launch} {D : va_G} {cI cZ : ClassId} {ad : Nat → Nat} {a : Program × Env × State × MethodId} {b : Array Value × List Frame × Method × Code × (State → Prop) × Nat} {A : Nat → Prop} (K : KS (GM l 0 0 D cI cZ ad a b A) cX12_divisor RX12 wsX12_divisor (some .int)) (hn : x_n (GM l 0 0 D cI cZ ad a b A) = 5) {res : (Int32 × St)} (hR : HRi (GM l 0 0 D cI cZ ad a b A) cX12_divisor tb res) : ∀ (n : Nat) (v2 : Int32) (v3 : Int32) (σ : St), mX12_divisor_4 n v2 v3 σ = some res → Wk (GM l 0 0 D cI cZ ad a b A) 4 [(2, .int v2), (3, .int v3)] [] σ := by
  intro n
  induction n with
  | zero => intro v2 v3 σ h; cases h
  | succ n ih =>
    intro v2 v3 σ h
    unfold mX12_divisor_4 at h
    refine k_iload_n K dX12_divisor_4 1 rfl ?_
    refine k_if_eq (tgt := 21) K dX12_divisor_5 (by decide) (fun q => ?_) (fun q => ?_)
    · have h := if_t q h
      refine k_iload_n K dX12_divisor_21 0 rfl ?_
      exact ret_i hR h dX12_divisor_22 trivial
    · have h := if_f q h
      refine k_iload_n K dX12_divisor_8 0 rfl ?_
      refine k_iload_n K dX12_divisor_9 1 rfl ?_
      obtain ⟨g1, h⟩ := gd_some h
      refine k_irem K dX12_divisor_10 g1 ?_
      have h := lt_some h
      refine k_istore (lv' := [(4, _), (2, _), (3, _)]) K dX12_divisor_11 (by rw [hn]; decide) rfl ?_
      refine k_iload_n K dX12_divisor_13 2 rfl ?_
      refine k_istore_n (lv' := [(2, _), (4, _), (3, _)]) K dX12_divisor_14 (by rw [hn]; decide) rfl ?_
      refine k_iload K dX12_divisor_15 1 rfl ?_
      refine k_istore_n (lv' := [(3, _), (2, _), (4, _)]) K dX12_divisor_17 (by rw [hn]; decide) rfl ?_
      refine k_goto (tgt := 4) K dX12_divisor_18 (by decide) ?_
      exact k_sub [1, 0] rfl (ih _ _ _ h)
set_option maxRecDepth 100000 in
set_option maxHeartbeats 4000000 in
theorem ctX12_divisor {l : Launch} {D : va_G} {cI cZ : ClassId} {ad : Nat → Nat} {v0 : Int32} {v1 : Int32} {σ : St} {res : (Int32 × St)} (h : mX12_divisor v0 v1 σ = some res) : Ci l yX12_divisor wsX12_divisor 0 0 D vwCl (tysM cI cZ) nwM (mkM cI cZ ad) ad 17 [.int v0, .int v1] σ res := by
  refine c_int (cc := cX12_divisor) (maxL := 5) (by decide) rfl (Nat.le_of_ble_eq_true rfl) fun a b hn K hR => ?_
  unfold mX12_divisor at h
  have K : KS (GM l 0 0 D cI cZ ad a b (w_A ad 17)) cX12_divisor RX12 wsX12_divisor (some .int) := K
  have hn : x_n (GM l 0 0 D cI cZ ad a b (w_A ad 17)) = 5 := hn
  refine k_sub [0, 1] rfl ?_
  refine k_iload_n K dX12_divisor_0 0 rfl ?_
  refine k_istore_n (lv' := [(2, _), (0, _), (1, _)]) K dX12_divisor_1 (by rw [hn]; decide) rfl ?_
  refine k_iload_n K dX12_divisor_2 2 rfl ?_
  refine k_istore_n (lv' := [(3, _), (2, _), (0, _), (1, _)]) K dX12_divisor_3 (by rw [hn]; decide) rfl ?_
  exact k_sub [1, 0] rfl (wX12_divisor_4 K hn hR FU _ _ _ h)
-- X12_feet (7, 164)
set_option maxRecDepth 100000 in
set_option maxHeartbeats 4000000 in
theorem wX12_feet_130 {l : Launch} {D : va_G} {cI cZ : ClassId} {ad : Nat → Nat} {a : Program × Env × State × MethodId} {b : Array Value × List Frame × Method × Code × (State → Prop) × Nat} {A : Nat → Prop} (K : KS (GM l 7 164 D cI cZ ad a b A) cX12_feet RX12 wsX12_feet (some .int)) (hn : x_n (GM l 7 164 D cI cZ ad a b A) = 10) {res : (Int32 × St)} (hR : HRi (GM l 7 164 D cI cZ ad a b A) cX12_feet tb res) : ∀ (v4 : Int32), ∀ (v7 : Int32), ∀ (v8 : Int32), ∀ (σ : St), mX12_feet_130 v4 v7 v8 σ = some res → Wk (GM l 7 164 D cI cZ ad a b A) 130 [(4, .int v4), (7, .int v7), (8, .int v8)] [] σ := by
  intro v4 v7 v8 σ h
  unfold mX12_feet_130 at h
  refine k_iload K dX12_feet_130 2 rfl ?_
  refine k_iload K dX12_feet_132 1 rfl ?_
  obtain ⟨⟨r22, s23⟩, e24, h⟩ := bd_some h
  dsimp only at h
  refine k_callSi K (ctX12_divisor e24) (va_cwS 2 K.ts gX12_feet_X12_divisor rfl rfl rfl hSX12_divisor ⟨Nat.le_of_ble_eq_true rfl, Nat.le_of_ble_eq_true rfl⟩) rfl rfl (Nat.le_of_ble_eq_true rfl) dX12_feet_134 ?_
  refine k_istore (lv' := [(9, _), (4, _), (7, _), (8, _)]) K dX12_feet_137 (by rw [hn]; decide) rfl ?_
  refine k_iload K dX12_feet_139 1 rfl ?_
  refine k_if_ne (tgt := 152) K dX12_feet_141 (by decide) (fun q => ?_) (fun q => ?_)
  · have h := if_f q h
    refine k_iload K dX12_feet_152 2 rfl ?_
    refine k_iload K dX12_feet_154 0 rfl ?_
    obtain ⟨g25, h⟩ := gd_some h
    refine k_idiv K dX12_feet_156 g25 ?_
    exact ret_i hR h dX12_feet_157 trivial
  · have h := if_t q h
    refine k_iload K dX12_feet_144 3 rfl ?_
    refine k_iload K dX12_feet_146 0 rfl ?_
    obtain ⟨g26, h⟩ := gd_some h
    refine k_idiv K dX12_feet_148 g26 ?_
    refine k_goto (tgt := 157) K dX12_feet_149 (by decide) ?_
    exact ret_i hR h dX12_feet_157 trivial
set_option maxRecDepth 100000 in
set_option maxHeartbeats 4000000 in
theorem wX12_feet_124 {l : Launch} {D : va_G} {cI cZ : ClassId} {ad : Nat → Nat} {a : Program × Env × State × MethodId} {b : Array Value × List Frame × Method × Code × (State → Prop) × Nat} {A : Nat → Prop} {k130 : Int32 → Int32 → Int32 → St → Option (Int32 × St)} {rc : Int32 → Int32 → Int32 → Int32 → Int32 → Int32 → Int32 → St → Option (Int32 × St)} (K : KS (GM l 7 164 D cI cZ ad a b A) cX12_feet RX12 wsX12_feet (some .int)) (hn : x_n (GM l 7 164 D cI cZ ad a b A) = 10) {res : (Int32 × St)} (hR : HRi (GM l 7 164 D cI cZ ad a b A) cX12_feet tb res) (hk130 : ∀ (v4 : Int32) (v7 : Int32) (v8 : Int32) (σ : St), k130 v4 v7 v8 σ = some res → Wk (GM l 7 164 D cI cZ ad a b A) 130 [(4, .int v4), (7, .int v7), (8, .int v8)] [] σ) (hrc : ∀ (v1 : Int32) (v4 : Int32) (v5 : Int32) (v6 : Int32) (v7 : Int32) (v8 : Int32) (v9 : Int32) (σ : St), rc v1 v4 v5 v6 v7 v8 v9 σ = some res → Wk (GM l 7 164 D cI cZ ad a b A) 76 [(0, .ref (ad 0)), (1, .int v1), (4, .int v4), (5, .int v5), (6, .int v6), (7, .int v7), (8, .int v8), (9, .int v9)] [] σ) : ∀ (v1 : Int32), ∀ (v4 : Int32), ∀ (v5 : Int32), ∀ (v6 : Int32), ∀ (v7 : Int32), ∀ (v8 : Int32), ∀ (v9 : Int32), ∀ (σ : St), mX12_feet_124 k130 rc v1 v4 v5 v6 v7 v8 v9 σ = some res → Wk (GM l 7 164 D cI cZ ad a b A) 124 [(0, .ref (ad 0)), (1, .int v1), (4, .int v4), (5, .int v5), (6, .int v6), (7, .int v7), (8, .int v8), (9, .int v9)] [] σ := by
  intro v1 v4 v5 v6 v7 v8 v9 σ h
  unfold mX12_feet_124 at h
  have h := lt_some h
  refine k_iinc (lv' := [(9, _), (0, _), (1, _), (4, _), (5, _), (6, _), (7, _), (8, _)]) K dX12_feet_124 7 rfl (v := _ + 1) (by rfl) (by rw [hn]; decide) rfl ?_
  refine k_goto (tgt := 76) K dX12_feet_127 (by decide) ?_
  exact k_sub [1, 2, 3, 4, 5, 6, 7, 0] rfl (hrc _ _ _ _ _ _ _ _ h)
set_option maxRecDepth 100000 in
set_option maxHeartbeats 4000000 in
theorem wX12_feet_121 {l : Launch} {D : va_G} {cI cZ : ClassId} {ad : Nat → Nat} {a : Program × Env × State × MethodId} {b : Array Value × List Frame × Method × Code × (State → Prop) × Nat} {A : Nat → Prop} {k130 : Int32 → Int32 → Int32 → St → Option (Int32 × St)} {rc : Int32 → Int32 → Int32 → Int32 → Int32 → Int32 → Int32 → St → Option (Int32 × St)} (K : KS (GM l 7 164 D cI cZ ad a b A) cX12_feet RX12 wsX12_feet (some .int)) (hn : x_n (GM l 7 164 D cI cZ ad a b A) = 10) {res : (Int32 × St)} (hR : HRi (GM l 7 164 D cI cZ ad a b A) cX12_feet tb res) (hk130 : ∀ (v4 : Int32) (v7 : Int32) (v8 : Int32) (σ : St), k130 v4 v7 v8 σ = some res → Wk (GM l 7 164 D cI cZ ad a b A) 130 [(4, .int v4), (7, .int v7), (8, .int v8)] [] σ) (hrc : ∀ (v1 : Int32) (v4 : Int32) (v5 : Int32) (v6 : Int32) (v7 : Int32) (v8 : Int32) (v9 : Int32) (σ : St), rc v1 v4 v5 v6 v7 v8 v9 σ = some res → Wk (GM l 7 164 D cI cZ ad a b A) 76 [(0, .ref (ad 0)), (1, .int v1), (4, .int v4), (5, .int v5), (6, .int v6), (7, .int v7), (8, .int v8), (9, .int v9)] [] σ) : ∀ (v1 : Int32), ∀ (v4 : Int32), ∀ (v5 : Int32), ∀ (v6 : Int32), ∀ (v7 : Int32), ∀ (v9 : Int32), ∀ (t0 : Int32), ∀ (t1 : Int32), ∀ (σ : St), mX12_feet_121 k130 rc v1 v4 v5 v6 v7 v9 t0 t1 σ = some res → Wk (GM l 7 164 D cI cZ ad a b A) 121 [(0, .ref (ad 0)), (1, .int v1), (4, .int v4), (5, .int v5), (6, .int v6), (7, .int v7), (9, .int v9)] [.int t0, .int t1] σ := by
  intro v1 v4 v5 v6 v7 v9 t0 t1 σ h
  unfold mX12_feet_121 at h
  refine k_iadd K dX12_feet_121 ?_
  have h := lt_some h
  refine k_istore (lv' := [(8, _), (0, _), (1, _), (4, _), (5, _), (6, _), (7, _), (9, _)]) K dX12_feet_122 (by rw [hn]; decide) rfl ?_
  exact k_sub [1, 2, 3, 4, 5, 6, 0, 7] rfl (wX12_feet_124 K hn hR hk130 hrc _ _ _ _ _ _ _ _ h)
set_option maxRecDepth 100000 in
set_option maxHeartbeats 4000000 in
theorem wX12_feet_76 {l : Launch} {D : va_G} {cI cZ : ClassId} {ad : Nat → Nat} {a : Program × Env × State × MethodId} {b : Array Value × List Frame × Method × Code × (State → Prop) × Nat} {A : Nat → Prop} {k130 : Int32 → Int32 → Int32 → St → Option (Int32 × St)} (K : KS (GM l 7 164 D cI cZ ad a b A) cX12_feet RX12 wsX12_feet (some .int)) (hn : x_n (GM l 7 164 D cI cZ ad a b A) = 10) {res : (Int32 × St)} (hR : HRi (GM l 7 164 D cI cZ ad a b A) cX12_feet tb res) (hk130 : ∀ (v4 : Int32) (v7 : Int32) (v8 : Int32) (σ : St), k130 v4 v7 v8 σ = some res → Wk (GM l 7 164 D cI cZ ad a b A) 130 [(4, .int v4), (7, .int v7), (8, .int v8)] [] σ) : ∀ (n : Nat) (v1 : Int32) (v4 : Int32) (v5 : Int32) (v6 : Int32) (v7 : Int32) (v8 : Int32) (v9 : Int32) (σ : St), mX12_feet_76 k130 n v1 v4 v5 v6 v7 v8 v9 σ = some res → Wk (GM l 7 164 D cI cZ ad a b A) 76 [(0, .ref (ad 0)), (1, .int v1), (4, .int v4), (5, .int v5), (6, .int v6), (7, .int v7), (8, .int v8), (9, .int v9)] [] σ := by
  intro n
  induction n with
  | zero => intro v1 v4 v5 v6 v7 v8 v9 σ h; cases h
  | succ n ih =>
    intro v1 v4 v5 v6 v7 v8 v9 σ h
    unfold mX12_feet_76 at h
    refine k_iload K dX12_feet_76 7 rfl ?_
    refine k_iconst (x := 4) K dX12_feet_78 (by decide) ?_
    refine k_icmp_ge (tgt := 130) K dX12_feet_79 (by decide) (fun q => ?_) (fun q => ?_)
    · have h := if_f q h
      exact k_sub [2, 5, 6] rfl (hk130 _ _ _ _ h)
    · have h := if_t q h
      refine k_aload_n K dX12_feet_82 0 rfl ?_
      refine k_iload K dX12_feet_83 3 rfl ?_
      refine k_iload K dX12_feet_85 7 rfl ?_
      obtain ⟨⟨r27, s28⟩, e29, h⟩ := bd_some h
      dsimp only at h
      refine k_callVi K 0 12 (Nat.le_of_ble_eq_true rfl) ((mM_0 cI cZ ad) _) rfl (ctX12_isEdge e29) (cwV 2 K.ts gX12_feet_X12_isEdge rfl rfl rfl hVX12_isEdge ⟨Nat.le_of_ble_eq_true rfl, Nat.le_of_ble_eq_true rfl⟩) rfl rfl (Nat.le_of_ble_eq_true rfl) dX12_feet_87 ?_
      refine k_if_ne (tgt := 124) K dX12_feet_90 (by decide) (fun q => ?_) (fun q => ?_)
      · have h := if_f q h
        exact k_sub [0, 1, 2, 3, 4, 5, 6, 7] rfl (wX12_feet_124 K hn hR hk130 ih _ _ _ _ _ _ _ _ h)
      · have h := if_t q h
        have h := lt_some h
        refine k_iinc (lv' := [(7, _), (0, _), (1, _), (4, _), (5, _), (6, _), (8, _), (9, _)]) K dX12_feet_93 5 rfl (v := _ + 1) (by rfl) (by rw [hn]; decide) rfl ?_
        refine k_iload K dX12_feet_96 6 rfl ?_
        refine k_aload_n K dX12_feet_98 1 rfl ?_
        refine k_iload_n K dX12_feet_99 2 rfl ?_
        refine k_aload_n K dX12_feet_100 1 rfl ?_
        refine k_iload K dX12_feet_101 4 rfl ?_
        refine k_iload K dX12_feet_103 7 rfl ?_
        obtain ⟨⟨r32, s33⟩, e34, h⟩ := bd_some h
        dsimp only at h
        refine k_callVi K 0 12 (Nat.le_of_ble_eq_true rfl) ((mM_0 cI cZ ad) _) rfl (ctX12_beside e34) (cwV 2 K.ts gX12_feet_X12_beside rfl rfl rfl hVX12_beside ⟨Nat.le_of_ble_eq_true rfl, Nat.le_of_ble_eq_true rfl⟩) rfl rfl (Nat.le_of_ble_eq_true rfl) dX12_feet_105 ?_
        obtain ⟨⟨r35, s36⟩, e37, h⟩ := bd_some h
        dsimp only at h
        refine k_callVi K 0 12 (Nat.le_of_ble_eq_true rfl) ((mM_0 cI cZ ad) _) rfl (ctX12_endOf e37) (cwV 2 K.ts gX12_feet_X12_endOf rfl rfl rfl hVX12_endOf ⟨Nat.le_of_ble_eq_true rfl, Nat.le_of_ble_eq_true rfl⟩) rfl rfl (Nat.le_of_ble_eq_true rfl) dX12_feet_108 ?_
        refine k_iload K dX12_feet_111 5 rfl ?_
        refine k_icmp_ne (tgt := 120) K dX12_feet_113 (by decide) (fun q => ?_) (fun q => ?_)
        · have h := if_f q h
          refine k_iconst (x := 0) K dX12_feet_120 (by decide) ?_
          exact k_sub [1, 2, 3, 4, 5, 0, 7] rfl (wX12_feet_121 K hn hR hk130 ih _ _ _ _ _ _ _ _ _ h)
        · have h := if_t q h
          refine k_iconst (x := 1) K dX12_feet_116 (by decide) ?_
          refine k_goto (tgt := 121) K dX12_feet_117 (by decide) ?_
          exact k_sub [1, 2, 3, 4, 5, 0, 7] rfl (wX12_feet_121 K hn hR hk130 ih _ _ _ _ _ _ _ _ _ h)
set_option maxRecDepth 100000 in
set_option maxHeartbeats 4000000 in
theorem wX12_feet_71 {l : Launch} {D : va_G} {cI cZ : ClassId} {ad : Nat → Nat} {a : Program × Env × State × MethodId} {b : Array Value × List Frame × Method × Code × (State → Prop) × Nat} {A : Nat → Prop} (K : KS (GM l 7 164 D cI cZ ad a b A) cX12_feet RX12 wsX12_feet (some .int)) (hn : x_n (GM l 7 164 D cI cZ ad a b A) = 10) {res : (Int32 × St)} (hR : HRi (GM l 7 164 D cI cZ ad a b A) cX12_feet tb res) : ∀ (v1 : Int32), ∀ (v4 : Int32), ∀ (v5 : Int32), ∀ (v6 : Int32), ∀ (v7 : Int32), ∀ (t0 : Int32), ∀ (σ : St), mX12_feet_71 v1 v4 v5 v6 v7 t0 σ = some res → Wk (GM l 7 164 D cI cZ ad a b A) 71 [(0, .ref (ad 0)), (1, .int v1), (4, .int v4), (5, .int v5), (6, .int v6), (7, .int v7)] [.int t0] σ := by
  intro v1 v4 v5 v6 v7 t0 σ h
  unfold mX12_feet_71 at h
  refine k_istore (lv' := [(8, _), (0, _), (1, _), (4, _), (5, _), (6, _), (7, _)]) K dX12_feet_71 (by rw [hn]; decide) rfl ?_
  refine k_iconst (x := 0) K dX12_feet_73 (by decide) ?_
  refine k_istore (lv' := [(9, _), (8, _), (0, _), (1, _), (4, _), (5, _), (6, _), (7, _)]) K dX12_feet_74 (by rw [hn]; decide) rfl ?_
  exact k_sub [2, 3, 4, 5, 6, 7, 1, 0] rfl (wX12_feet_76 K hn hR (fun v4 v7 v8 σ h => wX12_feet_130 K hn hR v4 v7 v8 σ h) FU _ _ _ _ _ _ _ _ h)
set_option maxRecDepth 100000 in
set_option maxHeartbeats 4000000 in
theorem ctX12_feet {l : Launch} {D : va_G} {cI cZ : ClassId} {ad : Nat → Nat} {v1 : Int32} {v2 : Int32} {v3 : Int32} {v4 : Int32} {σ : St} {res : (Int32 × St)} (h : mX12_feet v1 v2 v3 v4 σ = some res) : Ci l yX12_feet wsX12_feet 7 164 D vwCl (tysM cI cZ) nwM (mkM cI cZ ad) ad 17 [.ref (ad 0), .int v1, .int v2, .int v3, .int v4] σ res := by
  refine c_int (cc := cX12_feet) (maxL := 10) (by decide) rfl (Nat.le_of_ble_eq_true rfl) fun a b hn K hR => ?_
  unfold mX12_feet at h
  have K : KS (GM l 7 164 D cI cZ ad a b (w_A ad 17)) cX12_feet RX12 wsX12_feet (some .int) := K
  have hn : x_n (GM l 7 164 D cI cZ ad a b (w_A ad 17)) = 10 := hn
  refine k_sub [0, 1, 2, 3, 4] rfl ?_
  refine k_aload_n K dX12_feet_0 0 rfl ?_
  refine k_iload_n K dX12_feet_1 1 rfl ?_
  obtain ⟨⟨r1, s2⟩, e3, h⟩ := bd_some h
  dsimp only at h
  refine k_callVi K 0 12 (Nat.le_of_ble_eq_true rfl) ((mM_0 cI cZ ad) _) rfl (ctX12_isKind e3) (cwV 1 K.ts gX12_feet_X12_isKind rfl rfl rfl hVX12_isKind ⟨Nat.le_of_ble_eq_true rfl, Nat.le_of_ble_eq_true rfl⟩) rfl rfl (Nat.le_of_ble_eq_true rfl) dX12_feet_2 ?_
  refine k_if_eq (tgt := 35) K dX12_feet_5 (by decide) (fun q => ?_) (fun q => ?_)
  · have h := if_t q h
    refine k_iconst (x := (-1)) K dX12_feet_35 (by decide) ?_
    exact ret_i hR h dX12_feet_36 trivial
  · have h := if_f q h
    refine k_aload_n K dX12_feet_8 0 rfl ?_
    refine k_iload_n K dX12_feet_9 2 rfl ?_
    obtain ⟨⟨r4, s5⟩, e6, h⟩ := bd_some h
    dsimp only at h
    refine k_callVi K 0 12 (Nat.le_of_ble_eq_true rfl) ((mM_0 cI cZ ad) _) rfl (ctX12_isPair e6) (cwV 1 K.ts gX12_feet_X12_isPair rfl rfl rfl hVX12_isPair ⟨Nat.le_of_ble_eq_true rfl, Nat.le_of_ble_eq_true rfl⟩) rfl rfl (Nat.le_of_ble_eq_true rfl) dX12_feet_10 ?_
    refine k_if_eq (tgt := 35) K dX12_feet_13 (by decide) (fun q => ?_) (fun q => ?_)
    · have h := if_t q h
      refine k_iconst (x := (-1)) K dX12_feet_35 (by decide) ?_
      exact ret_i hR h dX12_feet_36 trivial
    · have h := if_f q h
      refine k_aload_n K dX12_feet_16 0 rfl ?_
      refine k_iload_n K dX12_feet_17 3 rfl ?_
      obtain ⟨⟨r7, s8⟩, e9, h⟩ := bd_some h
      dsimp only at h
      refine k_callVi K 0 12 (Nat.le_of_ble_eq_true rfl) ((mM_0 cI cZ ad) _) rfl (ctX12_isPair e9) (cwV 1 K.ts gX12_feet_X12_isPair rfl rfl rfl hVX12_isPair ⟨Nat.le_of_ble_eq_true rfl, Nat.le_of_ble_eq_true rfl⟩) rfl rfl (Nat.le_of_ble_eq_true rfl) dX12_feet_18 ?_
      refine k_if_eq (tgt := 35) K dX12_feet_21 (by decide) (fun q => ?_) (fun q => ?_)
      · have h := if_t q h
        refine k_iconst (x := (-1)) K dX12_feet_35 (by decide) ?_
        exact ret_i hR h dX12_feet_36 trivial
      · have h := if_f q h
        refine k_iload K dX12_feet_24 4 rfl ?_
        refine k_i2l K dX12_feet_26 ?_
        refine k_lconst (v := 0) K dX12_feet_27 (by decide) ?_
        refine k_lconst (v := 1) K dX12_feet_28 (by decide) ?_
        obtain ⟨⟨r10, s11⟩, e12, h⟩ := bd_some h
        dsimp only at h
        refine k_callSi K (ctX12_in e12) (va_cwS 3 K.ts gX12_feet_X12_in rfl rfl rfl hSX12_in ⟨Nat.le_of_ble_eq_true rfl, Nat.le_of_ble_eq_true rfl⟩) rfl rfl (Nat.le_of_ble_eq_true rfl) dX12_feet_29 ?_
        refine k_if_ne (tgt := 37) K dX12_feet_32 (by decide) (fun q => ?_) (fun q => ?_)
        · have h := if_f q h
          refine k_aload_n K dX12_feet_37 0 rfl ?_
          refine k_iload_n K dX12_feet_38 2 rfl ?_
          obtain ⟨⟨r13, s14⟩, e15, h⟩ := bd_some h
          dsimp only at h
          refine k_callVi K 0 12 (Nat.le_of_ble_eq_true rfl) ((mM_0 cI cZ ad) _) rfl (ctX12_bitOf e15) (cwV 1 K.ts gX12_feet_X12_bitOf rfl rfl rfl hVX12_bitOf ⟨Nat.le_of_ble_eq_true rfl, Nat.le_of_ble_eq_true rfl⟩) rfl rfl (Nat.le_of_ble_eq_true rfl) dX12_feet_39 ?_
          refine k_istore (lv' := [(5, _), (0, _), (1, _), (2, _), (3, _), (4, _)]) K dX12_feet_42 (by rw [hn]; decide) rfl ?_
          refine k_aload_n K dX12_feet_44 1 rfl ?_
          refine k_iload_n K dX12_feet_45 4 rfl ?_
          obtain ⟨⟨r16, s17⟩, e18, h⟩ := bd_some h
          dsimp only at h
          refine k_callVi K 0 12 (Nat.le_of_ble_eq_true rfl) ((mM_0 cI cZ ad) _) rfl (ctX12_bitOf e18) (cwV 1 K.ts gX12_feet_X12_bitOf rfl rfl rfl hVX12_bitOf ⟨Nat.le_of_ble_eq_true rfl, Nat.le_of_ble_eq_true rfl⟩) rfl rfl (Nat.le_of_ble_eq_true rfl) dX12_feet_46 ?_
          refine k_istore (lv' := [(6, _), (5, _), (0, _), (1, _), (2, _), (3, _), (4, _)]) K dX12_feet_49 (by rw [hn]; decide) rfl ?_
          refine k_iconst (x := 1) K dX12_feet_51 (by decide) ?_
          refine k_istore (lv' := [(7, _), (6, _), (5, _), (0, _), (1, _), (2, _), (3, _), (4, _)]) K dX12_feet_52 (by rw [hn]; decide) rfl ?_
          refine k_aload_n K dX12_feet_54 3 rfl ?_
          refine k_iload_n K dX12_feet_55 4 rfl ?_
          refine k_iload K dX12_feet_56 2 rfl ?_
          obtain ⟨⟨r19, s20⟩, e21, h⟩ := bd_some h
          dsimp only at h
          refine k_callVi K 0 12 (Nat.le_of_ble_eq_true rfl) ((mM_0 cI cZ ad) _) rfl (ctX12_endOf e21) (cwV 2 K.ts gX12_feet_X12_endOf rfl rfl rfl hVX12_endOf ⟨Nat.le_of_ble_eq_true rfl, Nat.le_of_ble_eq_true rfl⟩) rfl rfl (Nat.le_of_ble_eq_true rfl) dX12_feet_58 ?_
          refine k_iload K dX12_feet_61 1 rfl ?_
          refine k_icmp_ne (tgt := 70) K dX12_feet_63 (by decide) (fun q => ?_) (fun q => ?_)
          · have h := if_f q h
            refine k_iconst (x := 0) K dX12_feet_70 (by decide) ?_
            exact k_sub [3, 4, 7, 2, 1, 0] rfl (wX12_feet_71 K hn hR _ _ _ _ _ _ _ h)
          · have h := if_t q h
            refine k_iconst (x := 1) K dX12_feet_66 (by decide) ?_
            refine k_goto (tgt := 71) K dX12_feet_67 (by decide) ?_
            exact k_sub [3, 4, 7, 2, 1, 0] rfl (wX12_feet_71 K hn hR _ _ _ _ _ _ _ h)
        · have h := if_t q h
          refine k_iconst (x := (-1)) K dX12_feet_35 (by decide) ?_
          exact ret_i hR h dX12_feet_36 trivial
-- X12_apartOf (6, 142)
theorem iX12_apartOf_X12 : ∀ w ∈ wsX120, w ∈ wsX12_apartOf := fun _ h => List.mem_cons_of_mem _ (List.mem_append_right _ h)
theorem fX12_apartOf_200 : Cond.fieldLink RX12 200 "SlopeCoinsModel" "ended" "I" ∈ wsX12_apartOf := by decide +kernel
set_option maxRecDepth 100000 in
set_option maxHeartbeats 4000000 in
theorem wX12_apartOf_52 {l : Launch} {D : va_G} {cI cZ : ClassId} {ad : Nat → Nat} {a : Program × Env × State × MethodId} {b : Array Value × List Frame × Method × Code × (State → Prop) × Nat} {A : Nat → Prop} {rc : Int32 → Int32 → Int32 → Int32 → St → Option (Int32 × St)} (K : KS (GM l 6 142 D cI cZ ad a b A) cX12_apartOf RX12 wsX12_apartOf (some .int)) (hn : x_n (GM l 6 142 D cI cZ ad a b A) = 6) {res : (Int32 × St)} (hR : HRi (GM l 6 142 D cI cZ ad a b A) cX12_apartOf tb res) (hrc : ∀ (v1 : Int32) (v2 : Int32) (v3 : Int32) (v4 : Int32) (σ : St), rc v1 v2 v3 v4 σ = some res → Wk (GM l 6 142 D cI cZ ad a b A) 5 [(0, .ref (ad 0)), (1, .int v1), (2, .int v2), (3, .int v3), (4, .int v4)] [] σ) : ∀ (v1 : Int32), ∀ (v2 : Int32), ∀ (v4 : Int32), ∀ (t0 : Int32), ∀ (t1 : Int32), ∀ (σ : St), mX12_apartOf_52 rc v1 v2 v4 t0 t1 σ = some res → Wk (GM l 6 142 D cI cZ ad a b A) 52 [(0, .ref (ad 0)), (1, .int v1), (2, .int v2), (4, .int v4)] [.int t0, .int t1] σ := by
  intro v1 v2 v4 t0 t1 σ h
  unfold mX12_apartOf_52 at h
  refine k_ior K dX12_apartOf_52 ?_
  have h := lt_some h
  refine k_istore_n (lv' := [(3, _), (0, _), (1, _), (2, _), (4, _)]) K dX12_apartOf_53 (by rw [hn]; decide) rfl ?_
  have h := lt_some h
  refine k_iinc (lv' := [(4, _), (3, _), (0, _), (1, _), (2, _)]) K dX12_apartOf_54 4 rfl (v := _ + 1) (by rfl) (by rw [hn]; decide) rfl ?_
  refine k_goto (tgt := 5) K dX12_apartOf_57 (by decide) ?_
  exact k_sub [2, 3, 4, 1, 0] rfl (hrc _ _ _ _ _ h)
set_option maxRecDepth 100000 in
set_option maxHeartbeats 4000000 in
theorem wX12_apartOf_5 {l : Launch} {D : va_G} {cI cZ : ClassId} {ad : Nat → Nat} {a : Program × Env × State × MethodId} {b : Array Value × List Frame × Method × Code × (State → Prop) × Nat} {A : Nat → Prop} (K : KS (GM l 6 142 D cI cZ ad a b A) cX12_apartOf RX12 wsX12_apartOf (some .int)) (hn : x_n (GM l 6 142 D cI cZ ad a b A) = 6) {res : (Int32 × St)} (hR : HRi (GM l 6 142 D cI cZ ad a b A) cX12_apartOf tb res) : ∀ (n : Nat) (v1 : Int32) (v2 : Int32) (v3 : Int32) (v4 : Int32) (σ : St), mX12_apartOf_5 n v1 v2 v3 v4 σ = some res → Wk (GM l 6 142 D cI cZ ad a b A) 5 [(0, .ref (ad 0)), (1, .int v1), (2, .int v2), (3, .int v3), (4, .int v4)] [] σ := by
  intro n
  induction n with
  | zero => intro v1 v2 v3 v4 σ h; cases h
  | succ n ih =>
    intro v1 v2 v3 v4 σ h
    unfold mX12_apartOf_5 at h
    refine k_iload K dX12_apartOf_5 4 rfl ?_
    refine k_aload_n K dX12_apartOf_7 0 rfl ?_
    obtain ⟨⟨r1, s2⟩, e3, h⟩ := bd_some h
    dsimp only at h
    refine k_callVi K 0 12 (Nat.le_of_ble_eq_true rfl) ((mM_0 cI cZ ad) _) rfl (ctX12_cells e3) (cwV 0 K.ts gX12_apartOf_X12_cells rfl rfl rfl hVX12_cells ⟨Nat.le_of_ble_eq_true rfl, Nat.le_of_ble_eq_true rfl⟩) rfl rfl (Nat.le_of_ble_eq_true rfl) dX12_apartOf_8 ?_
    refine k_icmp_ge (tgt := 60) K dX12_apartOf_11 (by decide) (fun q => ?_) (fun q => ?_)
    · have h := if_f q h
      refine k_iload_n K dX12_apartOf_60 3 rfl ?_
      exact ret_i hR h dX12_apartOf_61 trivial
    · have h := if_t q h
      refine k_aload_n K dX12_apartOf_14 0 rfl ?_
      refine k_iload_n K dX12_apartOf_15 1 rfl ?_
      refine k_iload K dX12_apartOf_16 4 rfl ?_
      obtain ⟨⟨r4, s5⟩, e6, h⟩ := bd_some h
      dsimp only at h
      refine k_callVv K 0 12 (Nat.le_of_ble_eq_true rfl) ((mM_0 cI cZ ad) _) rfl (ctX12_rollKind e6) (cwV 2 K.ts gX12_apartOf_X12_rollKind rfl rfl rfl hVX12_rollKind ⟨Nat.le_of_ble_eq_true rfl, Nat.le_of_ble_eq_true rfl⟩) rfl rfl (Nat.le_of_ble_eq_true rfl) dX12_apartOf_18 ?_
      refine k_aload_n K dX12_apartOf_21 0 rfl ?_
      refine k_get K 0 12 32 iX12_apartOf_X12 (Nat.le_of_ble_eq_true rfl) ((mM_0 cI cZ ad) _) rfl (by decide) fX12_apartOf_200 rfl dX12_apartOf_22 ?_
      have h := lt_some h
      refine k_istore (lv' := [(5, _), (0, _), (1, _), (2, _), (3, _), (4, _)]) K dX12_apartOf_25 (by rw [hn]; decide) rfl ?_
      refine k_aload_n K dX12_apartOf_27 1 rfl ?_
      refine k_iload_n K dX12_apartOf_28 3 rfl ?_
      refine k_iload K dX12_apartOf_29 5 rfl ?_
      obtain ⟨⟨r8, s9⟩, e10, h⟩ := bd_some h
      dsimp only at h
      refine k_callVv K 0 12 (Nat.le_of_ble_eq_true rfl) ((mM_0 cI cZ ad) _) rfl (ctX12_rollKind e10) (cwV 2 K.ts gX12_apartOf_X12_rollKind rfl rfl rfl hVX12_rollKind ⟨Nat.le_of_ble_eq_true rfl, Nat.le_of_ble_eq_true rfl⟩) rfl rfl (Nat.le_of_ble_eq_true rfl) dX12_apartOf_31 ?_
      refine k_iload_n K dX12_apartOf_34 4 rfl ?_
      refine k_iload K dX12_apartOf_35 0 rfl ?_
      refine k_aload_n K dX12_apartOf_37 1 rfl ?_
      refine k_get K 0 12 32 iX12_apartOf_X12 (Nat.le_of_ble_eq_true rfl) ((mM_0 cI cZ ad) _) rfl (by decide) fX12_apartOf_200 rfl dX12_apartOf_38 ?_
      refine k_icmp_eq (tgt := 51) K dX12_apartOf_41 (by decide) (fun q => ?_) (fun q => ?_)
      · have h := if_t q h
        refine k_iconst (x := 0) K dX12_apartOf_51 (by decide) ?_
        exact k_sub [1, 2, 3, 5] rfl (wX12_apartOf_52 K hn hR ih _ _ _ _ _ _ h)
      · have h := if_f q h
        refine k_iconst (x := 1) K dX12_apartOf_44 (by decide) ?_
        refine k_iload K dX12_apartOf_45 5 rfl ?_
        refine k_ishl K dX12_apartOf_47 ?_
        refine k_goto (tgt := 52) K dX12_apartOf_48 (by decide) ?_
        exact k_sub [1, 2, 3, 5] rfl (wX12_apartOf_52 K hn hR ih _ _ _ _ _ _ h)
set_option maxRecDepth 100000 in
set_option maxHeartbeats 4000000 in
theorem ctX12_apartOf {l : Launch} {D : va_G} {cI cZ : ClassId} {ad : Nat → Nat} {v1 : Int32} {v2 : Int32} {σ : St} {res : (Int32 × St)} (h : mX12_apartOf v1 v2 σ = some res) : Ci l yX12_apartOf wsX12_apartOf 6 142 D vwCl (tysM cI cZ) nwM (mkM cI cZ ad) ad 17 [.ref (ad 0), .int v1, .int v2] σ res := by
  refine c_int (cc := cX12_apartOf) (maxL := 6) (by decide) rfl (Nat.le_of_ble_eq_true rfl) fun a b hn K hR => ?_
  unfold mX12_apartOf at h
  have K : KS (GM l 6 142 D cI cZ ad a b (w_A ad 17)) cX12_apartOf RX12 wsX12_apartOf (some .int) := K
  have hn : x_n (GM l 6 142 D cI cZ ad a b (w_A ad 17)) = 6 := hn
  refine k_sub [0, 1, 2] rfl ?_
  refine k_iconst (x := 0) K dX12_apartOf_0 (by decide) ?_
  refine k_istore_n (lv' := [(3, _), (0, _), (1, _), (2, _)]) K dX12_apartOf_1 (by rw [hn]; decide) rfl ?_
  refine k_iconst (x := 0) K dX12_apartOf_2 (by decide) ?_
  refine k_istore (lv' := [(4, _), (3, _), (0, _), (1, _), (2, _)]) K dX12_apartOf_3 (by rw [hn]; decide) rfl ?_
  exact k_sub [2, 3, 4, 1, 0] rfl (wX12_apartOf_5 K hn hR FU _ _ _ _ _ h)
-- X12_apart (7, 167)
set_option maxRecDepth 100000 in
set_option maxHeartbeats 4000000 in
theorem ctX12_apart {l : Launch} {D : va_G} {cI cZ : ClassId} {ad : Nat → Nat} {v1 : Int32} {v2 : Int32} {σ : St} {res : (Int32 × St)} (h : mX12_apart v1 v2 σ = some res) : Ci l yX12_apart wsX12_apart 7 167 D vwCl (tysM cI cZ) nwM (mkM cI cZ ad) ad 17 [.ref (ad 0), .int v1, .int v2] σ res := by
  refine c_int (cc := cX12_apart) (maxL := 3) (by decide) rfl (Nat.le_of_ble_eq_true rfl) fun a b hn K hR => ?_
  unfold mX12_apart at h
  have K : KS (GM l 7 167 D cI cZ ad a b (w_A ad 17)) cX12_apart RX12 wsX12_apart (some .int) := K
  have hn : x_n (GM l 7 167 D cI cZ ad a b (w_A ad 17)) = 3 := hn
  refine k_sub [0, 1, 2] rfl ?_
  refine k_aload_n K dX12_apart_0 0 rfl ?_
  refine k_iload_n K dX12_apart_1 1 rfl ?_
  obtain ⟨⟨r1, s2⟩, e3, h⟩ := bd_some h
  dsimp only at h
  refine k_callVi K 0 12 (Nat.le_of_ble_eq_true rfl) ((mM_0 cI cZ ad) _) rfl (ctX12_isKind e3) (cwV 1 K.ts gX12_apart_X12_isKind rfl rfl rfl hVX12_isKind ⟨Nat.le_of_ble_eq_true rfl, Nat.le_of_ble_eq_true rfl⟩) rfl rfl (Nat.le_of_ble_eq_true rfl) dX12_apart_2 ?_
  refine k_if_eq (tgt := 30) K dX12_apart_5 (by decide) (fun q => ?_) (fun q => ?_)
  · have h := if_t q h
    refine k_iconst (x := (-1)) K dX12_apart_30 (by decide) ?_
    exact ret_i hR h dX12_apart_31 trivial
  · have h := if_f q h
    refine k_aload_n K dX12_apart_8 0 rfl ?_
    refine k_iload_n K dX12_apart_9 2 rfl ?_
    obtain ⟨⟨r4, s5⟩, e6, h⟩ := bd_some h
    dsimp only at h
    refine k_callVi K 0 12 (Nat.le_of_ble_eq_true rfl) ((mM_0 cI cZ ad) _) rfl (ctX12_isKind e6) (cwV 1 K.ts gX12_apart_X12_isKind rfl rfl rfl hVX12_isKind ⟨Nat.le_of_ble_eq_true rfl, Nat.le_of_ble_eq_true rfl⟩) rfl rfl (Nat.le_of_ble_eq_true rfl) dX12_apart_10 ?_
    refine k_if_eq (tgt := 30) K dX12_apart_13 (by decide) (fun q => ?_) (fun q => ?_)
    · have h := if_t q h
      refine k_iconst (x := (-1)) K dX12_apart_30 (by decide) ?_
      exact ret_i hR h dX12_apart_31 trivial
    · have h := if_f q h
      refine k_iload_n K dX12_apart_16 1 rfl ?_
      refine k_iload_n K dX12_apart_17 2 rfl ?_
      refine k_icmp_eq (tgt := 30) K dX12_apart_18 (by decide) (fun q => ?_) (fun q => ?_)
      · have h := if_t q h
        refine k_iconst (x := (-1)) K dX12_apart_30 (by decide) ?_
        exact ret_i hR h dX12_apart_31 trivial
      · have h := if_f q h
        refine k_aload_n K dX12_apart_21 0 rfl ?_
        refine k_iload_n K dX12_apart_22 1 rfl ?_
        refine k_iload_n K dX12_apart_23 2 rfl ?_
        obtain ⟨⟨r7, s8⟩, e9, h⟩ := bd_some h
        dsimp only at h
        refine k_callVi K 0 12 (Nat.le_of_ble_eq_true rfl) ((mM_0 cI cZ ad) _) rfl (ctX12_apartOf e9) (cwV 2 K.ts gX12_apart_X12_apartOf rfl rfl rfl hVX12_apartOf ⟨Nat.le_of_ble_eq_true rfl, Nat.le_of_ble_eq_true rfl⟩) rfl rfl (Nat.le_of_ble_eq_true rfl) dX12_apart_24 ?_
        refine k_goto (tgt := 31) K dX12_apart_27 (by decide) ?_
        exact ret_i hR h dX12_apart_31 trivial
-- X12_tellsAll (0, 0)
theorem iX12_tellsAll_X12 : ∀ w ∈ wsX120, w ∈ wsX12_tellsAll := fun _ h => List.mem_cons_of_mem _ (List.mem_append_right _ h)
theorem fX12_tellsAll_63 : Cond.fieldLink RX12 63 "SlopeCoinsModel" "aparts" "[I" ∈ wsX12_tellsAll := by decide +kernel
set_option maxRecDepth 100000 in
set_option maxHeartbeats 4000000 in
theorem wX12_tellsAll_32 {l : Launch} {D : va_G} {cI cZ : ClassId} {ad : Nat → Nat} {a : Program × Env × State × MethodId} {b : Array Value × List Frame × Method × Code × (State → Prop) × Nat} {A : Nat → Prop} {rc : Int32 → Int32 → Int32 → Int32 → St → Option (Int32 × St)} (K : KS (GM l 0 0 D cI cZ ad a b A) cX12_tellsAll RX12 wsX12_tellsAll (some .boolean)) (hn : x_n (GM l 0 0 D cI cZ ad a b A) = 5) {res : (Int32 × St)} (hR : HRi (GM l 0 0 D cI cZ ad a b A) cX12_tellsAll zb res) (hrc : ∀ (v1 : Int32) (v2 : Int32) (v3 : Int32) (v4 : Int32) (σ : St), rc v1 v2 v3 v4 σ = some res → Wk (GM l 0 0 D cI cZ ad a b A) 5 [(0, .ref (ad 0)), (1, .int v1), (2, .int v2), (3, .int v3), (4, .int v4)] [] σ) : ∀ (v1 : Int32), ∀ (v2 : Int32), ∀ (v4 : Int32), ∀ (t0 : Int32), ∀ (σ : St), mX12_tellsAll_32 rc v1 v2 v4 t0 σ = some res → Wk (GM l 0 0 D cI cZ ad a b A) 32 [(0, .ref (ad 0)), (1, .int v1), (2, .int v2), (4, .int v4)] [.int t0] σ := by
  intro v1 v2 v4 t0 σ h
  unfold mX12_tellsAll_32 at h
  refine k_istore_n (lv' := [(3, _), (0, _), (1, _), (2, _), (4, _)]) K dX12_tellsAll_32 (by rw [hn]; decide) rfl ?_
  have h := lt_some h
  refine k_iinc (lv' := [(4, _), (3, _), (0, _), (1, _), (2, _)]) K dX12_tellsAll_33 4 rfl (v := _ + 1) (by rfl) (by rw [hn]; decide) rfl ?_
  refine k_goto (tgt := 5) K dX12_tellsAll_36 (by decide) ?_
  exact k_sub [2, 3, 4, 1, 0] rfl (hrc _ _ _ _ _ h)
set_option maxRecDepth 100000 in
set_option maxHeartbeats 4000000 in
theorem wX12_tellsAll_31 {l : Launch} {D : va_G} {cI cZ : ClassId} {ad : Nat → Nat} {a : Program × Env × State × MethodId} {b : Array Value × List Frame × Method × Code × (State → Prop) × Nat} {A : Nat → Prop} {rc : Int32 → Int32 → Int32 → Int32 → St → Option (Int32 × St)} (K : KS (GM l 0 0 D cI cZ ad a b A) cX12_tellsAll RX12 wsX12_tellsAll (some .boolean)) (hn : x_n (GM l 0 0 D cI cZ ad a b A) = 5) {res : (Int32 × St)} (hR : HRi (GM l 0 0 D cI cZ ad a b A) cX12_tellsAll zb res) (hrc : ∀ (v1 : Int32) (v2 : Int32) (v3 : Int32) (v4 : Int32) (σ : St), rc v1 v2 v3 v4 σ = some res → Wk (GM l 0 0 D cI cZ ad a b A) 5 [(0, .ref (ad 0)), (1, .int v1), (2, .int v2), (3, .int v3), (4, .int v4)] [] σ) : ∀ (v1 : Int32), ∀ (v2 : Int32), ∀ (v4 : Int32), ∀ (σ : St), mX12_tellsAll_31 rc v1 v2 v4 σ = some res → Wk (GM l 0 0 D cI cZ ad a b A) 31 [(0, .ref (ad 0)), (1, .int v1), (2, .int v2), (4, .int v4)] [] σ := by
  intro v1 v2 v4 σ h
  unfold mX12_tellsAll_31 at h
  refine k_iconst (x := 0) K dX12_tellsAll_31 (by decide) ?_
  exact k_sub [0, 1, 2, 3] rfl (wX12_tellsAll_32 K hn hR hrc _ _ _ _ _ h)
set_option maxRecDepth 100000 in
set_option maxHeartbeats 4000000 in
theorem wX12_tellsAll_5 {l : Launch} {D : va_G} {cI cZ : ClassId} {ad : Nat → Nat} {a : Program × Env × State × MethodId} {b : Array Value × List Frame × Method × Code × (State → Prop) × Nat} {A : Nat → Prop} (K : KS (GM l 0 0 D cI cZ ad a b A) cX12_tellsAll RX12 wsX12_tellsAll (some .boolean)) (hn : x_n (GM l 0 0 D cI cZ ad a b A) = 5) {res : (Int32 × St)} (hR : HRi (GM l 0 0 D cI cZ ad a b A) cX12_tellsAll zb res) : ∀ (n : Nat) (v1 : Int32) (v2 : Int32) (v3 : Int32) (v4 : Int32) (σ : St), mX12_tellsAll_5 n v1 v2 v3 v4 σ = some res → Wk (GM l 0 0 D cI cZ ad a b A) 5 [(0, .ref (ad 0)), (1, .int v1), (2, .int v2), (3, .int v3), (4, .int v4)] [] σ := by
  intro n
  induction n with
  | zero => intro v1 v2 v3 v4 σ h; cases h
  | succ n ih =>
    intro v1 v2 v3 v4 σ h
    unfold mX12_tellsAll_5 at h
    refine k_iload K dX12_tellsAll_5 4 rfl ?_
    refine k_iload_n K dX12_tellsAll_7 2 rfl ?_
    refine k_icmp_ge (tgt := 39) K dX12_tellsAll_8 (by decide) (fun q => ?_) (fun q => ?_)
    · have h := if_f q h
      refine k_iload_n K dX12_tellsAll_39 3 rfl ?_
      obtain ⟨g1, h⟩ := gd_some h
      exact ret_i hR h dX12_tellsAll_40 g1
    · have h := if_t q h
      refine k_iload_n K dX12_tellsAll_11 3 rfl ?_
      refine k_if_eq (tgt := 31) K dX12_tellsAll_12 (by decide) (fun q => ?_) (fun q => ?_)
      · have h := if_t q h
        exact k_sub [0, 1, 2, 4] rfl (wX12_tellsAll_31 K hn hR ih _ _ _ _ h)
      · have h := if_f q h
        refine k_aload_n K dX12_tellsAll_15 0 rfl ?_
        refine k_get K 0 12 35 iX12_tellsAll_X12 (Nat.le_of_ble_eq_true rfl) ((mM_0 cI cZ ad) _) rfl (by decide) fX12_tellsAll_63 rfl dX12_tellsAll_16 ?_
        refine k_iload K dX12_tellsAll_19 4 rfl ?_
        obtain ⟨g3, h⟩ := gd_some h
        refine k_ild K 16 0 (Nat.le_of_ble_eq_true rfl) ((mM_16 cI cZ ad) _) rfl g3 dX12_tellsAll_21 ?_
        refine k_iload_n K dX12_tellsAll_22 1 rfl ?_
        refine k_iand K dX12_tellsAll_23 ?_
        refine k_if_eq (tgt := 31) K dX12_tellsAll_24 (by decide) (fun q => ?_) (fun q => ?_)
        · have h := if_t q h
          exact k_sub [0, 1, 2, 4] rfl (wX12_tellsAll_31 K hn hR ih _ _ _ _ h)
        · have h := if_f q h
          refine k_iconst (x := 1) K dX12_tellsAll_27 (by decide) ?_
          refine k_goto (tgt := 32) K dX12_tellsAll_28 (by decide) ?_
          exact k_sub [0, 1, 2, 4] rfl (wX12_tellsAll_32 K hn hR ih _ _ _ _ _ h)
set_option maxRecDepth 100000 in
set_option maxHeartbeats 4000000 in
theorem ctX12_tellsAll {l : Launch} {D : va_G} {cI cZ : ClassId} {ad : Nat → Nat} {v1 : Int32} {v2 : Int32} {σ : St} {res : (Int32 × St)} (h : mX12_tellsAll v1 v2 σ = some res) : Ci l yX12_tellsAll wsX12_tellsAll 0 0 D vwCl (tysM cI cZ) nwM (mkM cI cZ ad) ad 17 [.ref (ad 0), .int v1, .int v2] σ res := by
  refine c_bool (cc := cX12_tellsAll) (maxL := 5) (by decide) rfl (Nat.le_of_ble_eq_true rfl) fun a b hn K hR => ?_
  unfold mX12_tellsAll at h
  have K : KS (GM l 0 0 D cI cZ ad a b (w_A ad 17)) cX12_tellsAll RX12 wsX12_tellsAll (some .boolean) := K
  have hn : x_n (GM l 0 0 D cI cZ ad a b (w_A ad 17)) = 5 := hn
  refine k_sub [0, 1, 2] rfl ?_
  refine k_iconst (x := 1) K dX12_tellsAll_0 (by decide) ?_
  refine k_istore_n (lv' := [(3, _), (0, _), (1, _), (2, _)]) K dX12_tellsAll_1 (by rw [hn]; decide) rfl ?_
  refine k_iconst (x := 0) K dX12_tellsAll_2 (by decide) ?_
  refine k_istore (lv' := [(4, _), (3, _), (0, _), (1, _), (2, _)]) K dX12_tellsAll_3 (by rw [hn]; decide) rfl ?_
  exact k_sub [2, 3, 4, 1, 0] rfl (wX12_tellsAll_5 K hn hR FU _ _ _ _ _ h)
-- X12_rollsOf (1, 24)
set_option maxRecDepth 100000 in
set_option maxHeartbeats 4000000 in
theorem wX12_rollsOf_140 {l : Launch} {D : va_G} {cI cZ : ClassId} {ad : Nat → Nat} {a : Program × Env × State × MethodId} {b : Array Value × List Frame × Method × Code × (State → Prop) × Nat} {A : Nat → Prop} {rc : Int32 → Int32 → Int32 → Int32 → St → Option (Int32 × St)} (K : KS (GM l 1 24 D cI cZ ad a b A) cX12_rollsOf RX12 wsX12_rollsOf (some .int)) (hn : x_n (GM l 1 24 D cI cZ ad a b A) = 9) {res : (Int32 × St)} (hR : HRi (GM l 1 24 D cI cZ ad a b A) cX12_rollsOf tb res) (hrc : ∀ (v1 : Int32) (v2 : Int32) (v3 : Int32) (v4 : Int32) (σ : St), rc v1 v2 v3 v4 σ = some res → Wk (GM l 1 24 D cI cZ ad a b A) 6 [(0, .ref (ad 0)), (1, .int v1), (2, .int v2), (3, .int v3), (4, .int v4)] [] σ) : ∀ (v1 : Int32), ∀ (v2 : Int32), ∀ (v3 : Int32), ∀ (v4 : Int32), ∀ (σ : St), mX12_rollsOf_140 rc v1 v2 v3 v4 σ = some res → Wk (GM l 1 24 D cI cZ ad a b A) 140 [(0, .ref (ad 0)), (1, .int v1), (2, .int v2), (3, .int v3), (4, .int v4)] [] σ := by
  intro v1 v2 v3 v4 σ h
  unfold mX12_rollsOf_140 at h
  have h := lt_some h
  refine k_iinc (lv' := [(4, _), (0, _), (1, _), (2, _), (3, _)]) K dX12_rollsOf_140 4 rfl (v := _ + 1) (by rfl) (by rw [hn]; decide) rfl ?_
  refine k_goto (tgt := 6) K dX12_rollsOf_143 (by decide) ?_
  exact k_sub [1, 2, 3, 4, 0] rfl (hrc _ _ _ _ _ h)
set_option maxRecDepth 100000 in
set_option maxHeartbeats 4000000 in
theorem wX12_rollsOf_134 {l : Launch} {D : va_G} {cI cZ : ClassId} {ad : Nat → Nat} {a : Program × Env × State × MethodId} {b : Array Value × List Frame × Method × Code × (State → Prop) × Nat} {A : Nat → Prop} {k140 : Int32 → Int32 → Int32 → Int32 → St → Option (Int32 × St)} {rc : Int32 → Int32 → Int32 → Int32 → Int32 → St → Option (Int32 × St)} (K : KS (GM l 1 24 D cI cZ ad a b A) cX12_rollsOf RX12 wsX12_rollsOf (some .int)) (hn : x_n (GM l 1 24 D cI cZ ad a b A) = 9) {res : (Int32 × St)} (hR : HRi (GM l 1 24 D cI cZ ad a b A) cX12_rollsOf tb res) (hk140 : ∀ (v1 : Int32) (v2 : Int32) (v3 : Int32) (v4 : Int32) (σ : St), k140 v1 v2 v3 v4 σ = some res → Wk (GM l 1 24 D cI cZ ad a b A) 140 [(0, .ref (ad 0)), (1, .int v1), (2, .int v2), (3, .int v3), (4, .int v4)] [] σ) (hrc : ∀ (v1 : Int32) (v2 : Int32) (v3 : Int32) (v4 : Int32) (v5 : Int32) (σ : St), rc v1 v2 v3 v4 v5 σ = some res → Wk (GM l 1 24 D cI cZ ad a b A) 28 [(0, .ref (ad 0)), (1, .int v1), (2, .int v2), (3, .int v3), (4, .int v4), (5, .int v5)] [] σ) : ∀ (v1 : Int32), ∀ (v2 : Int32), ∀ (v3 : Int32), ∀ (v4 : Int32), ∀ (v5 : Int32), ∀ (σ : St), mX12_rollsOf_134 k140 rc v1 v2 v3 v4 v5 σ = some res → Wk (GM l 1 24 D cI cZ ad a b A) 134 [(0, .ref (ad 0)), (1, .int v1), (2, .int v2), (3, .int v3), (4, .int v4), (5, .int v5)] [] σ := by
  intro v1 v2 v3 v4 v5 σ h
  unfold mX12_rollsOf_134 at h
  have h := lt_some h
  refine k_iinc (lv' := [(5, _), (0, _), (1, _), (2, _), (3, _), (4, _)]) K dX12_rollsOf_134 5 rfl (v := _ + 1) (by rfl) (by rw [hn]; decide) rfl ?_
  refine k_goto (tgt := 28) K dX12_rollsOf_137 (by decide) ?_
  exact k_sub [1, 2, 3, 4, 5, 0] rfl (hrc _ _ _ _ _ _ h)
set_option maxRecDepth 100000 in
set_option maxHeartbeats 4000000 in
theorem wX12_rollsOf_127 {l : Launch} {D : va_G} {cI cZ : ClassId} {ad : Nat → Nat} {a : Program × Env × State × MethodId} {b : Array Value × List Frame × Method × Code × (State → Prop) × Nat} {A : Nat → Prop} {k134 : Int32 → Int32 → Int32 → Int32 → Int32 → St → Option (Int32 × St)} {rc : Int32 → Int32 → Int32 → Int32 → Int32 → Int32 → St → Option (Int32 × St)} (K : KS (GM l 1 24 D cI cZ ad a b A) cX12_rollsOf RX12 wsX12_rollsOf (some .int)) (hn : x_n (GM l 1 24 D cI cZ ad a b A) = 9) {res : (Int32 × St)} (hR : HRi (GM l 1 24 D cI cZ ad a b A) cX12_rollsOf tb res) (hk134 : ∀ (v1 : Int32) (v2 : Int32) (v3 : Int32) (v4 : Int32) (v5 : Int32) (σ : St), k134 v1 v2 v3 v4 v5 σ = some res → Wk (GM l 1 24 D cI cZ ad a b A) 134 [(0, .ref (ad 0)), (1, .int v1), (2, .int v2), (3, .int v3), (4, .int v4), (5, .int v5)] [] σ) (hrc : ∀ (v1 : Int32) (v2 : Int32) (v3 : Int32) (v4 : Int32) (v5 : Int32) (v6 : Int32) (σ : St), rc v1 v2 v3 v4 v5 v6 σ = some res → Wk (GM l 1 24 D cI cZ ad a b A) 60 [(0, .ref (ad 0)), (1, .int v1), (2, .int v2), (3, .int v3), (4, .int v4), (5, .int v5), (6, .int v6)] [] σ) : ∀ (v1 : Int32), ∀ (v2 : Int32), ∀ (v4 : Int32), ∀ (v5 : Int32), ∀ (v6 : Int32), ∀ (t0 : Int32), ∀ (σ : St), mX12_rollsOf_127 k134 rc v1 v2 v4 v5 v6 t0 σ = some res → Wk (GM l 1 24 D cI cZ ad a b A) 127 [(0, .ref (ad 0)), (1, .int v1), (2, .int v2), (4, .int v4), (5, .int v5), (6, .int v6)] [.int t0] σ := by
  intro v1 v2 v4 v5 v6 t0 σ h
  unfold mX12_rollsOf_127 at h
  refine k_istore_n (lv' := [(3, _), (0, _), (1, _), (2, _), (4, _), (5, _), (6, _)]) K dX12_rollsOf_127 (by rw [hn]; decide) rfl ?_
  have h := lt_some h
  refine k_iinc (lv' := [(6, _), (3, _), (0, _), (1, _), (2, _), (4, _), (5, _)]) K dX12_rollsOf_128 6 rfl (v := _ + 1) (by rfl) (by rw [hn]; decide) rfl ?_
  refine k_goto (tgt := 60) K dX12_rollsOf_131 (by decide) ?_
  exact k_sub [2, 3, 4, 1, 5, 6, 0] rfl (hrc _ _ _ _ _ _ _ h)
set_option maxRecDepth 100000 in
set_option maxHeartbeats 4000000 in
theorem wX12_rollsOf_126 {l : Launch} {D : va_G} {cI cZ : ClassId} {ad : Nat → Nat} {a : Program × Env × State × MethodId} {b : Array Value × List Frame × Method × Code × (State → Prop) × Nat} {A : Nat → Prop} {k134 : Int32 → Int32 → Int32 → Int32 → Int32 → St → Option (Int32 × St)} {rc : Int32 → Int32 → Int32 → Int32 → Int32 → Int32 → St → Option (Int32 × St)} (K : KS (GM l 1 24 D cI cZ ad a b A) cX12_rollsOf RX12 wsX12_rollsOf (some .int)) (hn : x_n (GM l 1 24 D cI cZ ad a b A) = 9) {res : (Int32 × St)} (hR : HRi (GM l 1 24 D cI cZ ad a b A) cX12_rollsOf tb res) (hk134 : ∀ (v1 : Int32) (v2 : Int32) (v3 : Int32) (v4 : Int32) (v5 : Int32) (σ : St), k134 v1 v2 v3 v4 v5 σ = some res → Wk (GM l 1 24 D cI cZ ad a b A) 134 [(0, .ref (ad 0)), (1, .int v1), (2, .int v2), (3, .int v3), (4, .int v4), (5, .int v5)] [] σ) (hrc : ∀ (v1 : Int32) (v2 : Int32) (v3 : Int32) (v4 : Int32) (v5 : Int32) (v6 : Int32) (σ : St), rc v1 v2 v3 v4 v5 v6 σ = some res → Wk (GM l 1 24 D cI cZ ad a b A) 60 [(0, .ref (ad 0)), (1, .int v1), (2, .int v2), (3, .int v3), (4, .int v4), (5, .int v5), (6, .int v6)] [] σ) : ∀ (v1 : Int32), ∀ (v2 : Int32), ∀ (v3 : Int32), ∀ (v4 : Int32), ∀ (v5 : Int32), ∀ (v6 : Int32), ∀ (σ : St), mX12_rollsOf_126 k134 rc v1 v2 v3 v4 v5 v6 σ = some res → Wk (GM l 1 24 D cI cZ ad a b A) 126 [(0, .ref (ad 0)), (1, .int v1), (2, .int v2), (3, .int v3), (4, .int v4), (5, .int v5), (6, .int v6)] [] σ := by
  intro v1 v2 v3 v4 v5 v6 σ h
  unfold mX12_rollsOf_126 at h
  refine k_iload_n K dX12_rollsOf_126 3 rfl ?_
  exact k_sub [0, 1, 2, 4, 5, 6] rfl (wX12_rollsOf_127 K hn hR hk134 hrc _ _ _ _ _ _ _ h)
set_option maxRecDepth 100000 in
set_option maxHeartbeats 4000000 in
theorem wX12_rollsOf_121 {l : Launch} {D : va_G} {cI cZ : ClassId} {ad : Nat → Nat} {a : Program × Env × State × MethodId} {b : Array Value × List Frame × Method × Code × (State → Prop) × Nat} {A : Nat → Prop} {k134 : Int32 → Int32 → Int32 → Int32 → Int32 → St → Option (Int32 × St)} {rc : Int32 → Int32 → Int32 → Int32 → Int32 → Int32 → St → Option (Int32 × St)} (K : KS (GM l 1 24 D cI cZ ad a b A) cX12_rollsOf RX12 wsX12_rollsOf (some .int)) (hn : x_n (GM l 1 24 D cI cZ ad a b A) = 9) {res : (Int32 × St)} (hR : HRi (GM l 1 24 D cI cZ ad a b A) cX12_rollsOf tb res) (hk134 : ∀ (v1 : Int32) (v2 : Int32) (v3 : Int32) (v4 : Int32) (v5 : Int32) (σ : St), k134 v1 v2 v3 v4 v5 σ = some res → Wk (GM l 1 24 D cI cZ ad a b A) 134 [(0, .ref (ad 0)), (1, .int v1), (2, .int v2), (3, .int v3), (4, .int v4), (5, .int v5)] [] σ) (hrc : ∀ (v1 : Int32) (v2 : Int32) (v3 : Int32) (v4 : Int32) (v5 : Int32) (v6 : Int32) (σ : St), rc v1 v2 v3 v4 v5 v6 σ = some res → Wk (GM l 1 24 D cI cZ ad a b A) 60 [(0, .ref (ad 0)), (1, .int v1), (2, .int v2), (3, .int v3), (4, .int v4), (5, .int v5), (6, .int v6)] [] σ) : ∀ (v1 : Int32), ∀ (v2 : Int32), ∀ (v4 : Int32), ∀ (v5 : Int32), ∀ (v6 : Int32), ∀ (v7 : Int32), ∀ (σ : St), mX12_rollsOf_121 k134 rc v1 v2 v4 v5 v6 v7 σ = some res → Wk (GM l 1 24 D cI cZ ad a b A) 121 [(0, .ref (ad 0)), (1, .int v1), (2, .int v2), (4, .int v4), (5, .int v5), (6, .int v6), (7, .int v7)] [] σ := by
  intro v1 v2 v4 v5 v6 v7 σ h
  unfold mX12_rollsOf_121 at h
  refine k_iload K dX12_rollsOf_121 6 rfl ?_
  refine k_goto (tgt := 127) K dX12_rollsOf_123 (by decide) ?_
  exact k_sub [0, 1, 2, 3, 4, 5] rfl (wX12_rollsOf_127 K hn hR hk134 hrc _ _ _ _ _ _ _ h)
set_option maxRecDepth 100000 in
set_option maxHeartbeats 4000000 in
theorem wX12_rollsOf_76 {l : Launch} {D : va_G} {cI cZ : ClassId} {ad : Nat → Nat} {a : Program × Env × State × MethodId} {b : Array Value × List Frame × Method × Code × (State → Prop) × Nat} {A : Nat → Prop} {k134 : Int32 → Int32 → Int32 → Int32 → Int32 → St → Option (Int32 × St)} {rc : Int32 → Int32 → Int32 → Int32 → Int32 → Int32 → St → Option (Int32 × St)} (K : KS (GM l 1 24 D cI cZ ad a b A) cX12_rollsOf RX12 wsX12_rollsOf (some .int)) (hn : x_n (GM l 1 24 D cI cZ ad a b A) = 9) {res : (Int32 × St)} (hR : HRi (GM l 1 24 D cI cZ ad a b A) cX12_rollsOf tb res) (hk134 : ∀ (v1 : Int32) (v2 : Int32) (v3 : Int32) (v4 : Int32) (v5 : Int32) (σ : St), k134 v1 v2 v3 v4 v5 σ = some res → Wk (GM l 1 24 D cI cZ ad a b A) 134 [(0, .ref (ad 0)), (1, .int v1), (2, .int v2), (3, .int v3), (4, .int v4), (5, .int v5)] [] σ) (hrc : ∀ (v1 : Int32) (v2 : Int32) (v3 : Int32) (v4 : Int32) (v5 : Int32) (v6 : Int32) (σ : St), rc v1 v2 v3 v4 v5 v6 σ = some res → Wk (GM l 1 24 D cI cZ ad a b A) 60 [(0, .ref (ad 0)), (1, .int v1), (2, .int v2), (3, .int v3), (4, .int v4), (5, .int v5), (6, .int v6)] [] σ) : ∀ (v1 : Int32), ∀ (v2 : Int32), ∀ (v3 : Int32), ∀ (v4 : Int32), ∀ (v5 : Int32), ∀ (v6 : Int32), ∀ (t0 : Int32), ∀ (t1 : Int32), ∀ (σ : St), mX12_rollsOf_76 k134 rc v1 v2 v3 v4 v5 v6 t0 t1 σ = some res → Wk (GM l 1 24 D cI cZ ad a b A) 76 [(0, .ref (ad 0)), (1, .int v1), (2, .int v2), (3, .int v3), (4, .int v4), (5, .int v5), (6, .int v6)] [.int t0, .int t1] σ := by
  intro v1 v2 v3 v4 v5 v6 t0 t1 σ h
  unfold mX12_rollsOf_76 at h
  refine k_icmp_ge (tgt := 134) K dX12_rollsOf_76 (by decide) (fun q => ?_) (fun q => ?_)
  · have h := if_f q h
    exact k_sub [0, 1, 2, 3, 4, 5] rfl (hk134 _ _ _ _ _ _ h)
  · have h := if_t q h
    refine k_iconst (x := 1) K dX12_rollsOf_79 (by decide) ?_
    refine k_iload K dX12_rollsOf_80 4 rfl ?_
    refine k_ishl K dX12_rollsOf_82 ?_
    refine k_iconst (x := 1) K dX12_rollsOf_83 (by decide) ?_
    refine k_iload K dX12_rollsOf_84 5 rfl ?_
    refine k_ishl K dX12_rollsOf_86 ?_
    refine k_ior K dX12_rollsOf_87 ?_
    refine k_iconst (x := 1) K dX12_rollsOf_88 (by decide) ?_
    refine k_iload K dX12_rollsOf_89 6 rfl ?_
    refine k_ishl K dX12_rollsOf_91 ?_
    refine k_ior K dX12_rollsOf_92 ?_
    have h := lt_some h
    refine k_istore (lv' := [(7, _), (0, _), (1, _), (2, _), (3, _), (4, _), (5, _), (6, _)]) K dX12_rollsOf_93 (by rw [hn]; decide) rfl ?_
    refine k_aload_n K dX12_rollsOf_95 1 rfl ?_
    refine k_iload K dX12_rollsOf_96 0 rfl ?_
    refine k_iload_n K dX12_rollsOf_98 3 rfl ?_
    obtain ⟨⟨r7, s8⟩, e9, h⟩ := bd_some h
    dsimp only at h
    refine k_callVi K 0 12 (Nat.le_of_ble_eq_true rfl) ((mM_0 cI cZ ad) _) rfl (ctX12_tellsAll e9) (cwV 2 K.ts gX12_rollsOf_X12_tellsAll rfl rfl rfl hVX12_tellsAll ⟨Nat.le_of_ble_eq_true rfl, Nat.le_of_ble_eq_true rfl⟩) rfl rfl (Nat.le_of_ble_eq_true rfl) dX12_rollsOf_99 ?_
    refine k_istore (lv' := [(8, _), (7, _), (0, _), (1, _), (2, _), (3, _), (4, _), (5, _), (6, _)]) K dX12_rollsOf_102 (by rw [hn]; decide) rfl ?_
    refine k_iload K dX12_rollsOf_104 0 rfl ?_
    refine k_if_eq (tgt := 126) K dX12_rollsOf_106 (by decide) (fun q => ?_) (fun q => ?_)
    · have h := if_t q h
      exact k_sub [2, 3, 4, 5, 6, 7, 8] rfl (wX12_rollsOf_126 K hn hR hk134 hrc _ _ _ _ _ _ _ h)
    · have h := if_f q h
      refine k_iload_n K dX12_rollsOf_109 5 rfl ?_
      refine k_bipush (x := (-9)) K dX12_rollsOf_110 (by decide) ?_
      refine k_icmp_eq (tgt := 121) K dX12_rollsOf_112 (by decide) (fun q => ?_) (fun q => ?_)
      · have h := if_t q h
        exact k_sub [2, 3, 4, 6, 7, 8, 1] rfl (wX12_rollsOf_121 K hn hR hk134 hrc _ _ _ _ _ _ _ h)
      · have h := if_f q h
        refine k_iload K dX12_rollsOf_115 1 rfl ?_
        refine k_iload_n K dX12_rollsOf_117 5 rfl ?_
        refine k_icmp_ge (tgt := 126) K dX12_rollsOf_118 (by decide) (fun q => ?_) (fun q => ?_)
        · have h := if_f q h
          exact k_sub [2, 3, 4, 5, 6, 7, 8] rfl (wX12_rollsOf_126 K hn hR hk134 hrc _ _ _ _ _ _ _ h)
        · have h := if_t q h
          exact k_sub [2, 3, 4, 6, 7, 8, 1] rfl (wX12_rollsOf_121 K hn hR hk134 hrc _ _ _ _ _ _ _ h)
set_option maxRecDepth 100000 in
set_option maxHeartbeats 4000000 in
theorem wX12_rollsOf_60 {l : Launch} {D : va_G} {cI cZ : ClassId} {ad : Nat → Nat} {a : Program × Env × State × MethodId} {b : Array Value × List Frame × Method × Code × (State → Prop) × Nat} {A : Nat → Prop} {k134 : Int32 → Int32 → Int32 → Int32 → Int32 → St → Option (Int32 × St)} (K : KS (GM l 1 24 D cI cZ ad a b A) cX12_rollsOf RX12 wsX12_rollsOf (some .int)) (hn : x_n (GM l 1 24 D cI cZ ad a b A) = 9) {res : (Int32 × St)} (hR : HRi (GM l 1 24 D cI cZ ad a b A) cX12_rollsOf tb res) (hk134 : ∀ (v1 : Int32) (v2 : Int32) (v3 : Int32) (v4 : Int32) (v5 : Int32) (σ : St), k134 v1 v2 v3 v4 v5 σ = some res → Wk (GM l 1 24 D cI cZ ad a b A) 134 [(0, .ref (ad 0)), (1, .int v1), (2, .int v2), (3, .int v3), (4, .int v4), (5, .int v5)] [] σ) : ∀ (n : Nat) (v1 : Int32) (v2 : Int32) (v3 : Int32) (v4 : Int32) (v5 : Int32) (v6 : Int32) (σ : St), mX12_rollsOf_60 k134 n v1 v2 v3 v4 v5 v6 σ = some res → Wk (GM l 1 24 D cI cZ ad a b A) 60 [(0, .ref (ad 0)), (1, .int v1), (2, .int v2), (3, .int v3), (4, .int v4), (5, .int v5), (6, .int v6)] [] σ := by
  intro n
  induction n with
  | zero => intro v1 v2 v3 v4 v5 v6 σ h; cases h
  | succ n ih =>
    intro v1 v2 v3 v4 v5 v6 σ h
    unfold mX12_rollsOf_60 at h
    refine k_iload K dX12_rollsOf_60 6 rfl ?_
    refine k_iload_n K dX12_rollsOf_62 1 rfl ?_
    refine k_iconst (x := 2) K dX12_rollsOf_63 (by decide) ?_
    refine k_icmp_le (tgt := 72) K dX12_rollsOf_64 (by decide) (fun q => ?_) (fun q => ?_)
    · have h := if_f q h
      refine k_iload K dX12_rollsOf_72 5 rfl ?_
      refine k_iconst (x := 1) K dX12_rollsOf_74 (by decide) ?_
      refine k_iadd K dX12_rollsOf_75 ?_
      exact k_sub [0, 1, 2, 3, 4, 5, 6] rfl (wX12_rollsOf_76 K hn hR hk134 ih _ _ _ _ _ _ _ _ _ h)
    · have h := if_t q h
      refine k_iload K dX12_rollsOf_67 5 rfl ?_
      refine k_goto (tgt := 76) K dX12_rollsOf_69 (by decide) ?_
      exact k_sub [0, 1, 2, 3, 4, 5, 6] rfl (wX12_rollsOf_76 K hn hR hk134 ih _ _ _ _ _ _ _ _ _ h)
set_option maxRecDepth 100000 in
set_option maxHeartbeats 4000000 in
theorem wX12_rollsOf_58 {l : Launch} {D : va_G} {cI cZ : ClassId} {ad : Nat → Nat} {a : Program × Env × State × MethodId} {b : Array Value × List Frame × Method × Code × (State → Prop) × Nat} {A : Nat → Prop} {k140 : Int32 → Int32 → Int32 → Int32 → St → Option (Int32 × St)} {rc : Int32 → Int32 → Int32 → Int32 → Int32 → St → Option (Int32 × St)} (K : KS (GM l 1 24 D cI cZ ad a b A) cX12_rollsOf RX12 wsX12_rollsOf (some .int)) (hn : x_n (GM l 1 24 D cI cZ ad a b A) = 9) {res : (Int32 × St)} (hR : HRi (GM l 1 24 D cI cZ ad a b A) cX12_rollsOf tb res) (hk140 : ∀ (v1 : Int32) (v2 : Int32) (v3 : Int32) (v4 : Int32) (σ : St), k140 v1 v2 v3 v4 σ = some res → Wk (GM l 1 24 D cI cZ ad a b A) 140 [(0, .ref (ad 0)), (1, .int v1), (2, .int v2), (3, .int v3), (4, .int v4)] [] σ) (hrc : ∀ (v1 : Int32) (v2 : Int32) (v3 : Int32) (v4 : Int32) (v5 : Int32) (σ : St), rc v1 v2 v3 v4 v5 σ = some res → Wk (GM l 1 24 D cI cZ ad a b A) 28 [(0, .ref (ad 0)), (1, .int v1), (2, .int v2), (3, .int v3), (4, .int v4), (5, .int v5)] [] σ) : ∀ (v1 : Int32), ∀ (v2 : Int32), ∀ (v3 : Int32), ∀ (v4 : Int32), ∀ (v5 : Int32), ∀ (t0 : Int32), ∀ (σ : St), mX12_rollsOf_58 k140 rc v1 v2 v3 v4 v5 t0 σ = some res → Wk (GM l 1 24 D cI cZ ad a b A) 58 [(0, .ref (ad 0)), (1, .int v1), (2, .int v2), (3, .int v3), (4, .int v4), (5, .int v5)] [.int t0] σ := by
  intro v1 v2 v3 v4 v5 t0 σ h
  unfold mX12_rollsOf_58 at h
  refine k_istore (lv' := [(6, _), (0, _), (1, _), (2, _), (3, _), (4, _), (5, _)]) K dX12_rollsOf_58 (by rw [hn]; decide) rfl ?_
  exact k_sub [1, 2, 3, 4, 5, 6, 0] rfl (wX12_rollsOf_60 K hn hR (fun v1 v2 v3 v4 v5 σ h => wX12_rollsOf_134 K hn hR hk140 hrc v1 v2 v3 v4 v5 σ h) FU _ _ _ _ _ _ _ h)
set_option maxRecDepth 100000 in
set_option maxHeartbeats 4000000 in
theorem wX12_rollsOf_44 {l : Launch} {D : va_G} {cI cZ : ClassId} {ad : Nat → Nat} {a : Program × Env × State × MethodId} {b : Array Value × List Frame × Method × Code × (State → Prop) × Nat} {A : Nat → Prop} {k140 : Int32 → Int32 → Int32 → Int32 → St → Option (Int32 × St)} {rc : Int32 → Int32 → Int32 → Int32 → Int32 → St → Option (Int32 × St)} (K : KS (GM l 1 24 D cI cZ ad a b A) cX12_rollsOf RX12 wsX12_rollsOf (some .int)) (hn : x_n (GM l 1 24 D cI cZ ad a b A) = 9) {res : (Int32 × St)} (hR : HRi (GM l 1 24 D cI cZ ad a b A) cX12_rollsOf tb res) (hk140 : ∀ (v1 : Int32) (v2 : Int32) (v3 : Int32) (v4 : Int32) (σ : St), k140 v1 v2 v3 v4 σ = some res → Wk (GM l 1 24 D cI cZ ad a b A) 140 [(0, .ref (ad 0)), (1, .int v1), (2, .int v2), (3, .int v3), (4, .int v4)] [] σ) (hrc : ∀ (v1 : Int32) (v2 : Int32) (v3 : Int32) (v4 : Int32) (v5 : Int32) (σ : St), rc v1 v2 v3 v4 v5 σ = some res → Wk (GM l 1 24 D cI cZ ad a b A) 28 [(0, .ref (ad 0)), (1, .int v1), (2, .int v2), (3, .int v3), (4, .int v4), (5, .int v5)] [] σ) : ∀ (v1 : Int32), ∀ (v2 : Int32), ∀ (v3 : Int32), ∀ (v4 : Int32), ∀ (v5 : Int32), ∀ (t0 : Int32), ∀ (t1 : Int32), ∀ (σ : St), mX12_rollsOf_44 k140 rc v1 v2 v3 v4 v5 t0 t1 σ = some res → Wk (GM l 1 24 D cI cZ ad a b A) 44 [(0, .ref (ad 0)), (1, .int v1), (2, .int v2), (3, .int v3), (4, .int v4), (5, .int v5)] [.int t0, .int t1] σ := by
  intro v1 v2 v3 v4 v5 t0 t1 σ h
  unfold mX12_rollsOf_44 at h
  refine k_icmp_ge (tgt := 140) K dX12_rollsOf_44 (by decide) (fun q => ?_) (fun q => ?_)
  · have h := if_f q h
    exact k_sub [0, 1, 2, 3, 4] rfl (hk140 _ _ _ _ _ h)
  · have h := if_t q h
    refine k_iload_n K dX12_rollsOf_47 1 rfl ?_
    refine k_iconst (x := 2) K dX12_rollsOf_48 (by decide) ?_
    refine k_icmp_le (tgt := 56) K dX12_rollsOf_49 (by decide) (fun q => ?_) (fun q => ?_)
    · have h := if_f q h
      refine k_iload K dX12_rollsOf_56 5 rfl ?_
      exact k_sub [0, 1, 2, 3, 4, 5] rfl (wX12_rollsOf_58 K hn hR hk140 hrc _ _ _ _ _ _ _ h)
    · have h := if_t q h
      refine k_iconst (x := 0) K dX12_rollsOf_52 (by decide) ?_
      refine k_goto (tgt := 58) K dX12_rollsOf_53 (by decide) ?_
      exact k_sub [0, 1, 2, 3, 4, 5] rfl (wX12_rollsOf_58 K hn hR hk140 hrc _ _ _ _ _ _ _ h)
set_option maxRecDepth 100000 in
set_option maxHeartbeats 4000000 in
theorem wX12_rollsOf_28 {l : Launch} {D : va_G} {cI cZ : ClassId} {ad : Nat → Nat} {a : Program × Env × State × MethodId} {b : Array Value × List Frame × Method × Code × (State → Prop) × Nat} {A : Nat → Prop} {k140 : Int32 → Int32 → Int32 → Int32 → St → Option (Int32 × St)} (K : KS (GM l 1 24 D cI cZ ad a b A) cX12_rollsOf RX12 wsX12_rollsOf (some .int)) (hn : x_n (GM l 1 24 D cI cZ ad a b A) = 9) {res : (Int32 × St)} (hR : HRi (GM l 1 24 D cI cZ ad a b A) cX12_rollsOf tb res) (hk140 : ∀ (v1 : Int32) (v2 : Int32) (v3 : Int32) (v4 : Int32) (σ : St), k140 v1 v2 v3 v4 σ = some res → Wk (GM l 1 24 D cI cZ ad a b A) 140 [(0, .ref (ad 0)), (1, .int v1), (2, .int v2), (3, .int v3), (4, .int v4)] [] σ) : ∀ (n : Nat) (v1 : Int32) (v2 : Int32) (v3 : Int32) (v4 : Int32) (v5 : Int32) (σ : St), mX12_rollsOf_28 k140 n v1 v2 v3 v4 v5 σ = some res → Wk (GM l 1 24 D cI cZ ad a b A) 28 [(0, .ref (ad 0)), (1, .int v1), (2, .int v2), (3, .int v3), (4, .int v4), (5, .int v5)] [] σ := by
  intro n
  induction n with
  | zero => intro v1 v2 v3 v4 v5 σ h; cases h
  | succ n ih =>
    intro v1 v2 v3 v4 v5 σ h
    unfold mX12_rollsOf_28 at h
    refine k_iload K dX12_rollsOf_28 5 rfl ?_
    refine k_iload_n K dX12_rollsOf_30 1 rfl ?_
    refine k_iconst (x := 1) K dX12_rollsOf_31 (by decide) ?_
    refine k_icmp_le (tgt := 40) K dX12_rollsOf_32 (by decide) (fun q => ?_) (fun q => ?_)
    · have h := if_f q h
      refine k_iload K dX12_rollsOf_40 4 rfl ?_
      refine k_iconst (x := 1) K dX12_rollsOf_42 (by decide) ?_
      refine k_iadd K dX12_rollsOf_43 ?_
      exact k_sub [0, 1, 2, 3, 4, 5] rfl (wX12_rollsOf_44 K hn hR hk140 ih _ _ _ _ _ _ _ _ h)
    · have h := if_t q h
      refine k_iload K dX12_rollsOf_35 4 rfl ?_
      refine k_goto (tgt := 44) K dX12_rollsOf_37 (by decide) ?_
      exact k_sub [0, 1, 2, 3, 4, 5] rfl (wX12_rollsOf_44 K hn hR hk140 ih _ _ _ _ _ _ _ _ h)
set_option maxRecDepth 100000 in
set_option maxHeartbeats 4000000 in
theorem wX12_rollsOf_26 {l : Launch} {D : va_G} {cI cZ : ClassId} {ad : Nat → Nat} {a : Program × Env × State × MethodId} {b : Array Value × List Frame × Method × Code × (State → Prop) × Nat} {A : Nat → Prop} {rc : Int32 → Int32 → Int32 → Int32 → St → Option (Int32 × St)} (K : KS (GM l 1 24 D cI cZ ad a b A) cX12_rollsOf RX12 wsX12_rollsOf (some .int)) (hn : x_n (GM l 1 24 D cI cZ ad a b A) = 9) {res : (Int32 × St)} (hR : HRi (GM l 1 24 D cI cZ ad a b A) cX12_rollsOf tb res) (hrc : ∀ (v1 : Int32) (v2 : Int32) (v3 : Int32) (v4 : Int32) (σ : St), rc v1 v2 v3 v4 σ = some res → Wk (GM l 1 24 D cI cZ ad a b A) 6 [(0, .ref (ad 0)), (1, .int v1), (2, .int v2), (3, .int v3), (4, .int v4)] [] σ) : ∀ (v1 : Int32), ∀ (v2 : Int32), ∀ (v3 : Int32), ∀ (v4 : Int32), ∀ (t0 : Int32), ∀ (σ : St), mX12_rollsOf_26 rc v1 v2 v3 v4 t0 σ = some res → Wk (GM l 1 24 D cI cZ ad a b A) 26 [(0, .ref (ad 0)), (1, .int v1), (2, .int v2), (3, .int v3), (4, .int v4)] [.int t0] σ := by
  intro v1 v2 v3 v4 t0 σ h
  unfold mX12_rollsOf_26 at h
  refine k_istore (lv' := [(5, _), (0, _), (1, _), (2, _), (3, _), (4, _)]) K dX12_rollsOf_26 (by rw [hn]; decide) rfl ?_
  exact k_sub [1, 2, 3, 4, 5, 0] rfl (wX12_rollsOf_28 K hn hR (fun v1 v2 v3 v4 σ h => wX12_rollsOf_140 K hn hR hrc v1 v2 v3 v4 σ h) FU _ _ _ _ _ _ h)
set_option maxRecDepth 100000 in
set_option maxHeartbeats 4000000 in
theorem wX12_rollsOf_6 {l : Launch} {D : va_G} {cI cZ : ClassId} {ad : Nat → Nat} {a : Program × Env × State × MethodId} {b : Array Value × List Frame × Method × Code × (State → Prop) × Nat} {A : Nat → Prop} (K : KS (GM l 1 24 D cI cZ ad a b A) cX12_rollsOf RX12 wsX12_rollsOf (some .int)) (hn : x_n (GM l 1 24 D cI cZ ad a b A) = 9) {res : (Int32 × St)} (hR : HRi (GM l 1 24 D cI cZ ad a b A) cX12_rollsOf tb res) : ∀ (n : Nat) (v1 : Int32) (v2 : Int32) (v3 : Int32) (v4 : Int32) (σ : St), mX12_rollsOf_6 n v1 v2 v3 v4 σ = some res → Wk (GM l 1 24 D cI cZ ad a b A) 6 [(0, .ref (ad 0)), (1, .int v1), (2, .int v2), (3, .int v3), (4, .int v4)] [] σ := by
  intro n
  induction n with
  | zero => intro v1 v2 v3 v4 σ h; cases h
  | succ n ih =>
    intro v1 v2 v3 v4 σ h
    unfold mX12_rollsOf_6 at h
    refine k_iload K dX12_rollsOf_6 4 rfl ?_
    refine k_aload_n K dX12_rollsOf_8 0 rfl ?_
    obtain ⟨⟨r1, s2⟩, e3, h⟩ := bd_some h
    dsimp only at h
    refine k_callVi K 0 12 (Nat.le_of_ble_eq_true rfl) ((mM_0 cI cZ ad) _) rfl (ctX12_cells e3) (cwV 0 K.ts gX12_rollsOf_X12_cells rfl rfl rfl hVX12_cells ⟨Nat.le_of_ble_eq_true rfl, Nat.le_of_ble_eq_true rfl⟩) rfl rfl (Nat.le_of_ble_eq_true rfl) dX12_rollsOf_9 ?_
    refine k_icmp_ge (tgt := 146) K dX12_rollsOf_12 (by decide) (fun q => ?_) (fun q => ?_)
    · have h := if_f q h
      refine k_iload_n K dX12_rollsOf_146 3 rfl ?_
      exact ret_i hR h dX12_rollsOf_147 trivial
    · have h := if_t q h
      refine k_iload_n K dX12_rollsOf_15 1 rfl ?_
      refine k_iconst (x := 1) K dX12_rollsOf_16 (by decide) ?_
      refine k_icmp_le (tgt := 24) K dX12_rollsOf_17 (by decide) (fun q => ?_) (fun q => ?_)
      · have h := if_f q h
        refine k_iload K dX12_rollsOf_24 4 rfl ?_
        exact k_sub [0, 1, 2, 3, 4] rfl (wX12_rollsOf_26 K hn hR ih _ _ _ _ _ _ h)
      · have h := if_t q h
        refine k_iconst (x := 0) K dX12_rollsOf_20 (by decide) ?_
        refine k_goto (tgt := 26) K dX12_rollsOf_21 (by decide) ?_
        exact k_sub [0, 1, 2, 3, 4] rfl (wX12_rollsOf_26 K hn hR ih _ _ _ _ _ _ h)
set_option maxRecDepth 100000 in
set_option maxHeartbeats 4000000 in
theorem ctX12_rollsOf {l : Launch} {D : va_G} {cI cZ : ClassId} {ad : Nat → Nat} {v1 : Int32} {v2 : Int32} {σ : St} {res : (Int32 × St)} (h : mX12_rollsOf v1 v2 σ = some res) : Ci l yX12_rollsOf wsX12_rollsOf 1 24 D vwCl (tysM cI cZ) nwM (mkM cI cZ ad) ad 17 [.ref (ad 0), .int v1, .int v2] σ res := by
  refine c_int (cc := cX12_rollsOf) (maxL := 9) (by decide) rfl (Nat.le_of_ble_eq_true rfl) fun a b hn K hR => ?_
  unfold mX12_rollsOf at h
  have K : KS (GM l 1 24 D cI cZ ad a b (w_A ad 17)) cX12_rollsOf RX12 wsX12_rollsOf (some .int) := K
  have hn : x_n (GM l 1 24 D cI cZ ad a b (w_A ad 17)) = 9 := hn
  refine k_sub [0, 1, 2] rfl ?_
  refine k_bipush (x := (-9)) K dX12_rollsOf_0 (by decide) ?_
  refine k_istore_n (lv' := [(3, _), (0, _), (1, _), (2, _)]) K dX12_rollsOf_2 (by rw [hn]; decide) rfl ?_
  refine k_iconst (x := 0) K dX12_rollsOf_3 (by decide) ?_
  refine k_istore (lv' := [(4, _), (3, _), (0, _), (1, _), (2, _)]) K dX12_rollsOf_4 (by rw [hn]; decide) rfl ?_
  exact k_sub [2, 3, 4, 1, 0] rfl (wX12_rollsOf_6 K hn hR FU _ _ _ _ _ h)

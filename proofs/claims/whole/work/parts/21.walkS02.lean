/-! walks, by program -/
-- X7_skipBlanks (0, 0)
theorem iX7_skipBlanks_X7 : ∀ w ∈ wsX70, w ∈ wsX7_skipBlanks := fun _ h => List.mem_cons_of_mem _ (List.mem_append_right _ h)
theorem fX7_skipBlanks_9 : Cond.fieldLink RX7 9 "SlopeCoins$Reader" "bytes" "[C" ∈ wsX7_skipBlanks := by decide +kernel
theorem fX7_skipBlanks_21 : Cond.fieldLink RX7 21 "SlopeCoins$Reader" "length" "I" ∈ wsX7_skipBlanks := by decide +kernel
theorem fX7_skipBlanks_25 : Cond.fieldLink RX7 25 "SlopeCoins$Reader" "place" "I" ∈ wsX7_skipBlanks := by decide +kernel
set_option maxRecDepth 100000 in
set_option maxHeartbeats 4000000 in
theorem wX7_skipBlanks_0 {l : Launch} {D : va_G} {cI cZ cC cG cB : ClassId} {ad : Nat → Nat} {a : Program × Env × State × MethodId} {b : Array Value × List Frame × Method × Code × (State → Prop) × Nat} {A : Nat → Prop} (K : KS (GS l 0 0 D cI cZ cC cG cB ad a b A) cX7_skipBlanks RX7 wsX7_skipBlanks none) (hn : x_n (GS l 0 0 D cI cZ cC cG cB ad a b A) = 1) {res : (Int32 × St)} (hR : HRv (GS l 0 0 D cI cZ cC cG cB ad a b A) cX7_skipBlanks res) : ∀ (n : Nat) (σ : St), mX7_skipBlanks_0 n σ = some res → Wk (GS l 0 0 D cI cZ cC cG cB ad a b A) 0 [(0, .ref (ad 68))] [] σ := by
  intro n
  induction n with
  | zero => intro σ h; cases h
  | succ n ih =>
    intro σ h
    unfold mX7_skipBlanks_0 at h
    refine k_aload_n K dX7_skipBlanks_0 0 rfl ?_
    refine k_get K 68 7 2 iX7_skipBlanks_X7 (Nat.le_of_ble_eq_true rfl) ((mS_68 cI cZ cC cG cB ad) _) rfl (by decide) fX7_skipBlanks_25 rfl dX7_skipBlanks_1 ?_
    refine k_aload_n K dX7_skipBlanks_4 0 rfl ?_
    refine k_get K 68 7 1 iX7_skipBlanks_X7 (Nat.le_of_ble_eq_true rfl) ((mS_68 cI cZ cC cG cB ad) _) rfl (by decide) fX7_skipBlanks_21 rfl dX7_skipBlanks_5 ?_
    refine k_icmp_ge (tgt := 39) K dX7_skipBlanks_8 (by decide) (fun q => ?_) (fun q => ?_)
    · have h := if_f q h
      exact ret_v hR h dX7_skipBlanks_39
    · have h := if_t q h
      refine k_aload_n K dX7_skipBlanks_11 0 rfl ?_
      obtain ⟨g1, h⟩ := gd_some h
      refine k_get K 68 7 0 iX7_skipBlanks_X7 (Nat.le_of_ble_eq_true rfl) ((mS_68 cI cZ cC cG cB ad) _) rfl (by decide) fX7_skipBlanks_9 (rd_bytes ad g1) dX7_skipBlanks_12 ?_
      refine k_aload_n K dX7_skipBlanks_15 0 rfl ?_
      refine k_get K 68 7 2 iX7_skipBlanks_X7 (Nat.le_of_ble_eq_true rfl) ((mS_68 cI cZ cC cG cB ad) _) rfl (by decide) fX7_skipBlanks_25 rfl dX7_skipBlanks_16 ?_
      obtain ⟨g2, h⟩ := gd_some h
      refine k_cld K 1 2 (Nat.le_of_ble_eq_true rfl) ((mS_1 cI cZ cC cG cB ad) _) rfl g2 dX7_skipBlanks_19 ?_
      refine k_bipush (x := 32) K dX7_skipBlanks_20 (by decide) ?_
      refine k_icmp_eq (tgt := 26) K dX7_skipBlanks_22 (by decide) (fun q => ?_) (fun q => ?_)
      · have h := if_t q h
        refine k_aload_n K dX7_skipBlanks_26 0 rfl ?_
        refine k_dup K dX7_skipBlanks_27 rfl ?_
        refine k_get K 68 7 2 iX7_skipBlanks_X7 (Nat.le_of_ble_eq_true rfl) ((mS_68 cI cZ cC cG cB ad) _) rfl (by decide) fX7_skipBlanks_25 rfl dX7_skipBlanks_28 ?_
        refine k_iconst (x := 1) K dX7_skipBlanks_31 (by decide) ?_
        refine k_iadd K dX7_skipBlanks_32 ?_
        have h := lt_some h
        refine k_putI K 68 7 2 tyX7 tyX7_ok nmX7 iX7_skipBlanks_X7 (Nat.le_of_ble_eq_true rfl) ((mS_68 cI cZ cC cG cB ad) _) rfl (by decide) fX7_skipBlanks_25 rfl (by decide +kernel) (Nat.le_of_ble_eq_true rfl) (pS_68_2 cI cZ cC cG cB ad _ _) dX7_skipBlanks_33 ?_
        refine k_goto (tgt := 0) K dX7_skipBlanks_36 (by decide) ?_
        exact k_sub [0] rfl (ih  _ h)
      · have h := if_f q h
        exact ret_v hR h dX7_skipBlanks_25
set_option maxRecDepth 100000 in
set_option maxHeartbeats 4000000 in
theorem ctX7_skipBlanks {l : Launch} {D : va_G} {cI cZ cC cG cB : ClassId} {ad : Nat → Nat} {σ : St} {res : (Int32 × St)} (h : mX7_skipBlanks σ = some res) : Cv l yX7_skipBlanks wsX7_skipBlanks 0 0 D vwCl (tysS cI cZ cC cG cB) nwS (mkS cI cZ cC cG cB ad) ad 75 [.ref (ad 68)] σ res := by
  refine c_void (cc := cX7_skipBlanks) (maxL := 1) (by decide) rfl (Nat.le_of_ble_eq_true rfl) fun a b hn K hR => ?_
  unfold mX7_skipBlanks at h
  have K : KS (GS l 0 0 D cI cZ cC cG cB ad a b (w_A ad 75)) cX7_skipBlanks RX7 wsX7_skipBlanks none := K
  have hn : x_n (GS l 0 0 D cI cZ cC cG cB ad a b (w_A ad 75)) = 1 := hn
  refine k_sub [0] rfl ?_
  exact k_sub [0] rfl (wX7_skipBlanks_0 K hn hR FU  _ h)
-- X7_signAt (0, 0)
theorem iX7_signAt_X7 : ∀ w ∈ wsX70, w ∈ wsX7_signAt := fun _ h => List.mem_cons_of_mem _ (List.mem_append_right _ h)
theorem fX7_signAt_9 : Cond.fieldLink RX7 9 "SlopeCoins$Reader" "bytes" "[C" ∈ wsX7_signAt := by decide +kernel
theorem fX7_signAt_21 : Cond.fieldLink RX7 21 "SlopeCoins$Reader" "length" "I" ∈ wsX7_signAt := by decide +kernel
set_option maxRecDepth 100000 in
set_option maxHeartbeats 4000000 in
theorem wX7_signAt_45 {l : Launch} {D : va_G} {cI cZ cC cG cB : ClassId} {ad : Nat → Nat} {a : Program × Env × State × MethodId} {b : Array Value × List Frame × Method × Code × (State → Prop) × Nat} {A : Nat → Prop} (K : KS (GS l 0 0 D cI cZ cC cG cB ad a b A) cX7_signAt RX7 wsX7_signAt (some .int)) (hn : x_n (GS l 0 0 D cI cZ cC cG cB ad a b A) = 3) {res : (Int32 × St)} (hR : HRi (GS l 0 0 D cI cZ cC cG cB ad a b A) cX7_signAt tb res) : ∀ (v2 : Int32), ∀ (σ : St), mX7_signAt_45 v2 σ = some res → Wk (GS l 0 0 D cI cZ cC cG cB ad a b A) 45 [(2, .int v2)] [] σ := by
  intro v2 σ h
  unfold mX7_signAt_45 at h
  refine k_iload_n K dX7_signAt_45 0 rfl ?_
  refine k_bipush (x := 59) K dX7_signAt_46 (by decide) ?_
  refine k_icmp_ne (tgt := 55) K dX7_signAt_48 (by decide) (fun q => ?_) (fun q => ?_)
  · have h := if_f q h
    refine k_iconst (x := 4) K dX7_signAt_55 (by decide) ?_
    exact ret_i hR h dX7_signAt_56 trivial
  · have h := if_t q h
    refine k_iconst (x := 3) K dX7_signAt_51 (by decide) ?_
    refine k_goto (tgt := 56) K dX7_signAt_52 (by decide) ?_
    exact ret_i hR h dX7_signAt_56 trivial
set_option maxRecDepth 100000 in
set_option maxHeartbeats 4000000 in
theorem wX7_signAt_31 {l : Launch} {D : va_G} {cI cZ cC cG cB : ClassId} {ad : Nat → Nat} {a : Program × Env × State × MethodId} {b : Array Value × List Frame × Method × Code × (State → Prop) × Nat} {A : Nat → Prop} (K : KS (GS l 0 0 D cI cZ cC cG cB ad a b A) cX7_signAt RX7 wsX7_signAt (some .int)) (hn : x_n (GS l 0 0 D cI cZ cC cG cB ad a b A) = 3) {res : (Int32 × St)} (hR : HRi (GS l 0 0 D cI cZ cC cG cB ad a b A) cX7_signAt tb res) : ∀ (v2 : Int32), ∀ (σ : St), mX7_signAt_31 v2 σ = some res → Wk (GS l 0 0 D cI cZ cC cG cB ad a b A) 31 [(2, .int v2)] [] σ := by
  intro v2 σ h
  unfold mX7_signAt_31 at h
  refine k_iload_n K dX7_signAt_31 0 rfl ?_
  refine k_bipush (x := 48) K dX7_signAt_32 (by decide) ?_
  refine k_icmp_lt (tgt := 45) K dX7_signAt_34 (by decide) (fun q => ?_) (fun q => ?_)
  · have h := if_t q h
    exact k_sub [0] rfl (wX7_signAt_45 K hn hR _ _ h)
  · have h := if_f q h
    refine k_iload_n K dX7_signAt_37 0 rfl ?_
    refine k_bipush (x := 57) K dX7_signAt_38 (by decide) ?_
    refine k_icmp_gt (tgt := 45) K dX7_signAt_40 (by decide) (fun q => ?_) (fun q => ?_)
    · have h := if_t q h
      exact k_sub [0] rfl (wX7_signAt_45 K hn hR _ _ h)
    · have h := if_f q h
      refine k_iconst (x := 2) K dX7_signAt_43 (by decide) ?_
      exact ret_i hR h dX7_signAt_44 trivial
set_option maxRecDepth 100000 in
set_option maxHeartbeats 4000000 in
theorem ctX7_signAt {l : Launch} {D : va_G} {cI cZ cC cG cB : ClassId} {ad : Nat → Nat} {v1 : Int32} {σ : St} {res : (Int32 × St)} (h : mX7_signAt v1 σ = some res) : Ci l yX7_signAt wsX7_signAt 0 0 D vwCl (tysS cI cZ cC cG cB) nwS (mkS cI cZ cC cG cB ad) ad 75 [.ref (ad 68), .int v1] σ res := by
  refine c_int (cc := cX7_signAt) (maxL := 3) (by decide) rfl (Nat.le_of_ble_eq_true rfl) fun a b hn K hR => ?_
  unfold mX7_signAt at h
  have K : KS (GS l 0 0 D cI cZ cC cG cB ad a b (w_A ad 75)) cX7_signAt RX7 wsX7_signAt (some .int) := K
  have hn : x_n (GS l 0 0 D cI cZ cC cG cB ad a b (w_A ad 75)) = 3 := hn
  refine k_sub [0, 1] rfl ?_
  refine k_iload_n K dX7_signAt_0 1 rfl ?_
  refine k_aload_n K dX7_signAt_1 0 rfl ?_
  refine k_get K 68 7 1 iX7_signAt_X7 (Nat.le_of_ble_eq_true rfl) ((mS_68 cI cZ cC cG cB ad) _) rfl (by decide) fX7_signAt_21 rfl dX7_signAt_2 ?_
  refine k_icmp_lt (tgt := 10) K dX7_signAt_5 (by decide) (fun q => ?_) (fun q => ?_)
  · have h := if_t q h
    refine k_aload_n K dX7_signAt_10 0 rfl ?_
    obtain ⟨g1, h⟩ := gd_some h
    refine k_get K 68 7 0 iX7_signAt_X7 (Nat.le_of_ble_eq_true rfl) ((mS_68 cI cZ cC cG cB ad) _) rfl (by decide) fX7_signAt_9 (rd_bytes ad g1) dX7_signAt_11 ?_
    refine k_iload_n K dX7_signAt_14 1 rfl ?_
    obtain ⟨g2, h⟩ := gd_some h
    refine k_cld K 1 2 (Nat.le_of_ble_eq_true rfl) ((mS_1 cI cZ cC cG cB ad) _) rfl g2 dX7_signAt_15 ?_
    have h := lt_some h
    refine k_istore_n (lv' := [(2, _), (0, _), (1, _)]) K dX7_signAt_16 (by rw [hn]; decide) rfl ?_
    refine k_iload_n K dX7_signAt_17 0 rfl ?_
    refine k_bipush (x := 97) K dX7_signAt_18 (by decide) ?_
    refine k_icmp_lt (tgt := 31) K dX7_signAt_20 (by decide) (fun q => ?_) (fun q => ?_)
    · have h := if_t q h
      exact k_sub [0] rfl (wX7_signAt_31 K hn hR _ _ h)
    · have h := if_f q h
      refine k_iload_n K dX7_signAt_23 0 rfl ?_
      refine k_bipush (x := 122) K dX7_signAt_24 (by decide) ?_
      refine k_icmp_gt (tgt := 31) K dX7_signAt_26 (by decide) (fun q => ?_) (fun q => ?_)
      · have h := if_t q h
        exact k_sub [0] rfl (wX7_signAt_31 K hn hR _ _ h)
      · have h := if_f q h
        refine k_iconst (x := 1) K dX7_signAt_29 (by decide) ?_
        exact ret_i hR h dX7_signAt_30 trivial
  · have h := if_f q h
    refine k_iconst (x := 0) K dX7_signAt_8 (by decide) ?_
    exact ret_i hR h dX7_signAt_9 trivial
-- X7_weigh (0, 0)
theorem iX7_weigh_X7 : ∀ w ∈ wsX70, w ∈ wsX7_weigh := fun _ h => List.mem_cons_of_mem _ (List.mem_append_right _ h)
theorem fX7_weigh_9 : Cond.fieldLink RX7 9 "SlopeCoins$Reader" "bytes" "[C" ∈ wsX7_weigh := by decide +kernel
theorem fX7_weigh_39 : Cond.fieldLink RX7 39 "SlopeCoins$Reader" "token" "I" ∈ wsX7_weigh := by decide +kernel
theorem fX7_weigh_46 : Cond.fieldLink RX7 46 "SlopeCoins$Reader" "value" "I" ∈ wsX7_weigh := by decide +kernel
theorem fX7_weigh_114 : Cond.fieldLink RX7 114 "SlopeCoins$Reader" "start" "I" ∈ wsX7_weigh := by decide +kernel
set_option maxRecDepth 100000 in
set_option maxHeartbeats 4000000 in
theorem wX7_weigh_65 {l : Launch} {D : va_G} {cI cZ cC cG cB : ClassId} {ad : Nat → Nat} {a : Program × Env × State × MethodId} {b : Array Value × List Frame × Method × Code × (State → Prop) × Nat} {A : Nat → Prop} (K : KS (GS l 0 0 D cI cZ cC cG cB ad a b A) cX7_weigh RX7 wsX7_weigh none) (hn : x_n (GS l 0 0 D cI cZ cC cG cB ad a b A) = 2) {res : (Int32 × St)} (hR : HRv (GS l 0 0 D cI cZ cC cG cB ad a b A) cX7_weigh res) : ∀ (v1 : Int32), ∀ (σ : St), mX7_weigh_65 v1 σ = some res → Wk (GS l 0 0 D cI cZ cC cG cB ad a b A) 65 [(0, .ref (ad 68)), (1, .int v1)] [] σ := by
  intro v1 σ h
  unfold mX7_weigh_65 at h
  refine k_aload_n K dX7_weigh_65 0 rfl ?_
  refine k_get K 68 7 4 iX7_weigh_X7 (Nat.le_of_ble_eq_true rfl) ((mS_68 cI cZ cC cG cB ad) _) rfl (by decide) fX7_weigh_39 rfl dX7_weigh_66 ?_
  refine k_iconst (x := 2) K dX7_weigh_69 (by decide) ?_
  refine k_icmp_ne (tgt := 135) K dX7_weigh_70 (by decide) (fun q => ?_) (fun q => ?_)
  · have h := if_f q h
    exact ret_v hR h dX7_weigh_135
  · have h := if_t q h
    refine k_aload_n K dX7_weigh_73 0 rfl ?_
    refine k_bipush (x := 10) K dX7_weigh_74 (by decide) ?_
    refine k_aload_n K dX7_weigh_76 0 rfl ?_
    obtain ⟨g1, h⟩ := gd_some h
    refine k_get K 68 7 0 iX7_weigh_X7 (Nat.le_of_ble_eq_true rfl) ((mS_68 cI cZ cC cG cB ad) _) rfl (by decide) fX7_weigh_9 (rd_bytes ad g1) dX7_weigh_77 ?_
    refine k_aload_n K dX7_weigh_80 0 rfl ?_
    refine k_get K 68 7 3 iX7_weigh_X7 (Nat.le_of_ble_eq_true rfl) ((mS_68 cI cZ cC cG cB ad) _) rfl (by decide) fX7_weigh_114 rfl dX7_weigh_81 ?_
    obtain ⟨g2, h⟩ := gd_some h
    refine k_cld K 1 2 (Nat.le_of_ble_eq_true rfl) ((mS_1 cI cZ cC cG cB ad) _) rfl g2 dX7_weigh_84 ?_
    refine k_bipush (x := 48) K dX7_weigh_85 (by decide) ?_
    refine k_isub K dX7_weigh_87 ?_
    refine k_imul K dX7_weigh_88 ?_
    refine k_aload_n K dX7_weigh_89 0 rfl ?_
    obtain ⟨g3, h⟩ := gd_some h
    refine k_get K 68 7 0 iX7_weigh_X7 (Nat.le_of_ble_eq_true rfl) ((mS_68 cI cZ cC cG cB ad) _) rfl (by decide) fX7_weigh_9 (rd_bytes ad g3) dX7_weigh_90 ?_
    refine k_aload_n K dX7_weigh_93 0 rfl ?_
    refine k_get K 68 7 3 iX7_weigh_X7 (Nat.le_of_ble_eq_true rfl) ((mS_68 cI cZ cC cG cB ad) _) rfl (by decide) fX7_weigh_114 rfl dX7_weigh_94 ?_
    refine k_iconst (x := 1) K dX7_weigh_97 (by decide) ?_
    refine k_iadd K dX7_weigh_98 ?_
    obtain ⟨g4, h⟩ := gd_some h
    refine k_cld K 1 2 (Nat.le_of_ble_eq_true rfl) ((mS_1 cI cZ cC cG cB ad) _) rfl g4 dX7_weigh_99 ?_
    refine k_iadd K dX7_weigh_100 ?_
    refine k_bipush (x := 48) K dX7_weigh_101 (by decide) ?_
    refine k_isub K dX7_weigh_103 ?_
    have h := lt_some h
    refine k_putI K 68 7 5 tyX7 tyX7_ok nmX7 iX7_weigh_X7 (Nat.le_of_ble_eq_true rfl) ((mS_68 cI cZ cC cG cB ad) _) rfl (by decide) fX7_weigh_46 rfl (by decide +kernel) (Nat.le_of_ble_eq_true rfl) (pS_68_5 cI cZ cC cG cB ad _ _) dX7_weigh_104 ?_
    refine k_aload_n K dX7_weigh_107 0 rfl ?_
    refine k_iload_n K dX7_weigh_108 1 rfl ?_
    refine k_iconst (x := 2) K dX7_weigh_109 (by decide) ?_
    refine k_icmp_gt (tgt := 127) K dX7_weigh_110 (by decide) (fun q => ?_) (fun q => ?_)
    · have h := if_t q h
      refine k_iconst (x := 4) K dX7_weigh_127 (by decide) ?_
      refine k_goto (tgt := 132) K dX7_weigh_128 (by decide) ?_
      have h := lt_some h
      refine k_putI K 68 7 4 tyX7 tyX7_ok nmX7 iX7_weigh_X7 (Nat.le_of_ble_eq_true rfl) ((mS_68 cI cZ cC cG cB ad) _) rfl (by decide) fX7_weigh_39 rfl (by decide +kernel) (Nat.le_of_ble_eq_true rfl) (pS_68_4 cI cZ cC cG cB ad _ _) dX7_weigh_132 ?_
      exact ret_v hR h dX7_weigh_135
    · have h := if_f q h
      refine k_aload_n K dX7_weigh_113 0 rfl ?_
      obtain ⟨g7, h⟩ := gd_some h
      refine k_get K 68 7 0 iX7_weigh_X7 (Nat.le_of_ble_eq_true rfl) ((mS_68 cI cZ cC cG cB ad) _) rfl (by decide) fX7_weigh_9 (rd_bytes ad g7) dX7_weigh_114 ?_
      refine k_aload_n K dX7_weigh_117 0 rfl ?_
      refine k_get K 68 7 3 iX7_weigh_X7 (Nat.le_of_ble_eq_true rfl) ((mS_68 cI cZ cC cG cB ad) _) rfl (by decide) fX7_weigh_114 rfl dX7_weigh_118 ?_
      obtain ⟨g8, h⟩ := gd_some h
      refine k_cld K 1 2 (Nat.le_of_ble_eq_true rfl) ((mS_1 cI cZ cC cG cB ad) _) rfl g8 dX7_weigh_121 ?_
      refine k_bipush (x := 48) K dX7_weigh_122 (by decide) ?_
      refine k_icmp_ne (tgt := 131) K dX7_weigh_124 (by decide) (fun q => ?_) (fun q => ?_)
      · have h := if_f q h
        refine k_iconst (x := 2) K dX7_weigh_131 (by decide) ?_
        have h := lt_some h
        refine k_putI K 68 7 4 tyX7 tyX7_ok nmX7 iX7_weigh_X7 (Nat.le_of_ble_eq_true rfl) ((mS_68 cI cZ cC cG cB ad) _) rfl (by decide) fX7_weigh_39 rfl (by decide +kernel) (Nat.le_of_ble_eq_true rfl) (pS_68_4 cI cZ cC cG cB ad _ _) dX7_weigh_132 ?_
        exact ret_v hR h dX7_weigh_135
      · have h := if_t q h
        refine k_iconst (x := 4) K dX7_weigh_127 (by decide) ?_
        refine k_goto (tgt := 132) K dX7_weigh_128 (by decide) ?_
        have h := lt_some h
        refine k_putI K 68 7 4 tyX7 tyX7_ok nmX7 iX7_weigh_X7 (Nat.le_of_ble_eq_true rfl) ((mS_68 cI cZ cC cG cB ad) _) rfl (by decide) fX7_weigh_39 rfl (by decide +kernel) (Nat.le_of_ble_eq_true rfl) (pS_68_4 cI cZ cC cG cB ad _ _) dX7_weigh_132 ?_
        exact ret_v hR h dX7_weigh_135
set_option maxRecDepth 100000 in
set_option maxHeartbeats 4000000 in
theorem ctX7_weigh {l : Launch} {D : va_G} {cI cZ cC cG cB : ClassId} {ad : Nat → Nat} {v1 : Int32} {σ : St} {res : (Int32 × St)} (h : mX7_weigh v1 σ = some res) : Cv l yX7_weigh wsX7_weigh 0 0 D vwCl (tysS cI cZ cC cG cB) nwS (mkS cI cZ cC cG cB ad) ad 75 [.ref (ad 68), .int v1] σ res := by
  refine c_void (cc := cX7_weigh) (maxL := 2) (by decide) rfl (Nat.le_of_ble_eq_true rfl) fun a b hn K hR => ?_
  unfold mX7_weigh at h
  have K : KS (GS l 0 0 D cI cZ cC cG cB ad a b (w_A ad 75)) cX7_weigh RX7 wsX7_weigh none := K
  have hn : x_n (GS l 0 0 D cI cZ cC cG cB ad a b (w_A ad 75)) = 2 := hn
  refine k_sub [0, 1] rfl ?_
  refine k_aload_n K dX7_weigh_0 0 rfl ?_
  refine k_get K 68 7 4 iX7_weigh_X7 (Nat.le_of_ble_eq_true rfl) ((mS_68 cI cZ cC cG cB ad) _) rfl (by decide) fX7_weigh_39 rfl dX7_weigh_1 ?_
  refine k_iconst (x := 1) K dX7_weigh_4 (by decide) ?_
  refine k_icmp_ne (tgt := 33) K dX7_weigh_5 (by decide) (fun q => ?_) (fun q => ?_)
  · have h := if_f q h
    refine k_aload_n K dX7_weigh_33 0 rfl ?_
    refine k_get K 68 7 4 iX7_weigh_X7 (Nat.le_of_ble_eq_true rfl) ((mS_68 cI cZ cC cG cB ad) _) rfl (by decide) fX7_weigh_39 rfl dX7_weigh_34 ?_
    refine k_iconst (x := 2) K dX7_weigh_37 (by decide) ?_
    refine k_icmp_ne (tgt := 65) K dX7_weigh_38 (by decide) (fun q => ?_) (fun q => ?_)
    · have h := if_f q h
      exact k_sub [0, 1] rfl (wX7_weigh_65 K hn hR _ _ h)
    · have h := if_t q h
      refine k_iload_n K dX7_weigh_41 1 rfl ?_
      refine k_iconst (x := 1) K dX7_weigh_42 (by decide) ?_
      refine k_icmp_ne (tgt := 65) K dX7_weigh_43 (by decide) (fun q => ?_) (fun q => ?_)
      · have h := if_f q h
        exact k_sub [0, 1] rfl (wX7_weigh_65 K hn hR _ _ h)
      · have h := if_t q h
        refine k_aload_n K dX7_weigh_46 0 rfl ?_
        refine k_aload_n K dX7_weigh_47 0 rfl ?_
        obtain ⟨g11, h⟩ := gd_some h
        refine k_get K 68 7 0 iX7_weigh_X7 (Nat.le_of_ble_eq_true rfl) ((mS_68 cI cZ cC cG cB ad) _) rfl (by decide) fX7_weigh_9 (rd_bytes ad g11) dX7_weigh_48 ?_
        refine k_aload_n K dX7_weigh_51 0 rfl ?_
        refine k_get K 68 7 3 iX7_weigh_X7 (Nat.le_of_ble_eq_true rfl) ((mS_68 cI cZ cC cG cB ad) _) rfl (by decide) fX7_weigh_114 rfl dX7_weigh_52 ?_
        obtain ⟨g12, h⟩ := gd_some h
        refine k_cld K 1 2 (Nat.le_of_ble_eq_true rfl) ((mS_1 cI cZ cC cG cB ad) _) rfl g12 dX7_weigh_55 ?_
        refine k_bipush (x := 48) K dX7_weigh_56 (by decide) ?_
        refine k_isub K dX7_weigh_58 ?_
        have h := lt_some h
        refine k_putI K 68 7 5 tyX7 tyX7_ok nmX7 iX7_weigh_X7 (Nat.le_of_ble_eq_true rfl) ((mS_68 cI cZ cC cG cB ad) _) rfl (by decide) fX7_weigh_46 rfl (by decide +kernel) (Nat.le_of_ble_eq_true rfl) (pS_68_5 cI cZ cC cG cB ad _ _) dX7_weigh_59 ?_
        refine k_goto (tgt := 135) K dX7_weigh_62 (by decide) ?_
        exact ret_v hR h dX7_weigh_135
  · have h := if_t q h
    refine k_aload_n K dX7_weigh_8 0 rfl ?_
    refine k_iload_n K dX7_weigh_9 1 rfl ?_
    refine k_iconst (x := 1) K dX7_weigh_10 (by decide) ?_
    refine k_icmp_ne (tgt := 26) K dX7_weigh_11 (by decide) (fun q => ?_) (fun q => ?_)
    · have h := if_f q h
      refine k_iconst (x := 0) K dX7_weigh_26 (by decide) ?_
      have h := lt_some h
      refine k_putI K 68 7 5 tyX7 tyX7_ok nmX7 iX7_weigh_X7 (Nat.le_of_ble_eq_true rfl) ((mS_68 cI cZ cC cG cB ad) _) rfl (by decide) fX7_weigh_46 rfl (by decide +kernel) (Nat.le_of_ble_eq_true rfl) (pS_68_5 cI cZ cC cG cB ad _ _) dX7_weigh_27 ?_
      refine k_goto (tgt := 135) K dX7_weigh_30 (by decide) ?_
      exact ret_v hR h dX7_weigh_135
    · have h := if_t q h
      refine k_aload_n K dX7_weigh_14 0 rfl ?_
      obtain ⟨g15, h⟩ := gd_some h
      refine k_get K 68 7 0 iX7_weigh_X7 (Nat.le_of_ble_eq_true rfl) ((mS_68 cI cZ cC cG cB ad) _) rfl (by decide) fX7_weigh_9 (rd_bytes ad g15) dX7_weigh_15 ?_
      refine k_aload_n K dX7_weigh_18 0 rfl ?_
      refine k_get K 68 7 3 iX7_weigh_X7 (Nat.le_of_ble_eq_true rfl) ((mS_68 cI cZ cC cG cB ad) _) rfl (by decide) fX7_weigh_114 rfl dX7_weigh_19 ?_
      obtain ⟨g16, h⟩ := gd_some h
      refine k_cld K 1 2 (Nat.le_of_ble_eq_true rfl) ((mS_1 cI cZ cC cG cB ad) _) rfl g16 dX7_weigh_22 ?_
      refine k_goto (tgt := 27) K dX7_weigh_23 (by decide) ?_
      have h := lt_some h
      refine k_putI K 68 7 5 tyX7 tyX7_ok nmX7 iX7_weigh_X7 (Nat.le_of_ble_eq_true rfl) ((mS_68 cI cZ cC cG cB ad) _) rfl (by decide) fX7_weigh_46 rfl (by decide +kernel) (Nat.le_of_ble_eq_true rfl) (pS_68_5 cI cZ cC cG cB ad _ _) dX7_weigh_27 ?_
      refine k_goto (tgt := 135) K dX7_weigh_30 (by decide) ?_
      exact ret_v hR h dX7_weigh_135
-- X7_nextToken (1, 22)
theorem iX7_nextToken_X7 : ∀ w ∈ wsX70, w ∈ wsX7_nextToken := fun _ h => List.mem_cons_of_mem _ (List.mem_append_right _ h)
theorem fX7_nextToken_21 : Cond.fieldLink RX7 21 "SlopeCoins$Reader" "length" "I" ∈ wsX7_nextToken := by decide +kernel
theorem fX7_nextToken_25 : Cond.fieldLink RX7 25 "SlopeCoins$Reader" "place" "I" ∈ wsX7_nextToken := by decide +kernel
theorem fX7_nextToken_39 : Cond.fieldLink RX7 39 "SlopeCoins$Reader" "token" "I" ∈ wsX7_nextToken := by decide +kernel
theorem fX7_nextToken_46 : Cond.fieldLink RX7 46 "SlopeCoins$Reader" "value" "I" ∈ wsX7_nextToken := by decide +kernel
theorem fX7_nextToken_114 : Cond.fieldLink RX7 114 "SlopeCoins$Reader" "start" "I" ∈ wsX7_nextToken := by decide +kernel
set_option maxRecDepth 100000 in
set_option maxHeartbeats 4000000 in
theorem wX7_nextToken_115 {l : Launch} {D : va_G} {cI cZ cC cG cB : ClassId} {ad : Nat → Nat} {a : Program × Env × State × MethodId} {b : Array Value × List Frame × Method × Code × (State → Prop) × Nat} {A : Nat → Prop} (K : KS (GS l 1 22 D cI cZ cC cG cB ad a b A) cX7_nextToken RX7 wsX7_nextToken none) (hn : x_n (GS l 1 22 D cI cZ cC cG cB ad a b A) = 2) {res : (Int32 × St)} (hR : HRv (GS l 1 22 D cI cZ cC cG cB ad a b A) cX7_nextToken res) : ∀ (σ : St), mX7_nextToken_115 σ = some res → Wk (GS l 1 22 D cI cZ cC cG cB ad a b A) 115 [(0, .ref (ad 68))] [] σ := by
  intro σ h
  unfold mX7_nextToken_115 at h
  refine k_aload_n K dX7_nextToken_115 0 rfl ?_
  refine k_aload_n K dX7_nextToken_116 0 rfl ?_
  refine k_get K 68 7 2 iX7_nextToken_X7 (Nat.le_of_ble_eq_true rfl) ((mS_68 cI cZ cC cG cB ad) _) rfl (by decide) fX7_nextToken_25 rfl dX7_nextToken_117 ?_
  refine k_aload_n K dX7_nextToken_120 0 rfl ?_
  refine k_get K 68 7 3 iX7_nextToken_X7 (Nat.le_of_ble_eq_true rfl) ((mS_68 cI cZ cC cG cB ad) _) rfl (by decide) fX7_nextToken_114 rfl dX7_nextToken_121 ?_
  refine k_isub K dX7_nextToken_124 ?_
  obtain ⟨⟨r11, s12⟩, e13, h⟩ := bd_some h
  dsimp only at h
  refine k_callVv K 68 7 (Nat.le_of_ble_eq_true rfl) ((mS_68 cI cZ cC cG cB ad) _) rfl (ctX7_weigh e13) (cwV 1 K.ts gX7_nextToken_X7_weigh rfl rfl rfl hVX7_weigh ⟨Nat.le_of_ble_eq_true rfl, Nat.le_of_ble_eq_true rfl⟩) rfl rfl (Nat.le_of_ble_eq_true rfl) dX7_nextToken_125 ?_
  exact ret_v hR h dX7_nextToken_128
set_option maxRecDepth 100000 in
set_option maxHeartbeats 4000000 in
theorem wX7_nextToken_69 {l : Launch} {D : va_G} {cI cZ cC cG cB : ClassId} {ad : Nat → Nat} {a : Program × Env × State × MethodId} {b : Array Value × List Frame × Method × Code × (State → Prop) × Nat} {A : Nat → Prop} {k115 : St → Option (Int32 × St)} (K : KS (GS l 1 22 D cI cZ cC cG cB ad a b A) cX7_nextToken RX7 wsX7_nextToken none) (hn : x_n (GS l 1 22 D cI cZ cC cG cB ad a b A) = 2) {res : (Int32 × St)} (hR : HRv (GS l 1 22 D cI cZ cC cG cB ad a b A) cX7_nextToken res) (hk115 : ∀ (σ : St), k115 σ = some res → Wk (GS l 1 22 D cI cZ cC cG cB ad a b A) 115 [(0, .ref (ad 68))] [] σ) : ∀ (n : Nat) (v1 : Int32) (σ : St), mX7_nextToken_69 k115 n v1 σ = some res → Wk (GS l 1 22 D cI cZ cC cG cB ad a b A) 69 [(0, .ref (ad 68)), (1, .int v1)] [] σ := by
  intro n
  induction n with
  | zero => intro v1 σ h; cases h
  | succ n ih =>
    intro v1 σ h
    unfold mX7_nextToken_69 at h
    refine k_iload_n K dX7_nextToken_69 1 rfl ?_
    refine k_if_eq (tgt := 115) K dX7_nextToken_70 (by decide) (fun q => ?_) (fun q => ?_)
    · have h := if_t q h
      exact k_sub [0] rfl (hk115  _ h)
    · have h := if_f q h
      refine k_aload_n K dX7_nextToken_73 0 rfl ?_
      refine k_get K 68 7 2 iX7_nextToken_X7 (Nat.le_of_ble_eq_true rfl) ((mS_68 cI cZ cC cG cB ad) _) rfl (by decide) fX7_nextToken_25 rfl dX7_nextToken_74 ?_
      refine k_aload_n K dX7_nextToken_77 0 rfl ?_
      refine k_get K 68 7 1 iX7_nextToken_X7 (Nat.le_of_ble_eq_true rfl) ((mS_68 cI cZ cC cG cB ad) _) rfl (by decide) fX7_nextToken_21 rfl dX7_nextToken_78 ?_
      refine k_icmp_ge (tgt := 115) K dX7_nextToken_81 (by decide) (fun q => ?_) (fun q => ?_)
      · have h := if_f q h
        exact k_sub [0] rfl (hk115  _ h)
      · have h := if_t q h
        refine k_aload_n K dX7_nextToken_84 0 rfl ?_
        refine k_aload_n K dX7_nextToken_85 0 rfl ?_
        refine k_get K 68 7 2 iX7_nextToken_X7 (Nat.le_of_ble_eq_true rfl) ((mS_68 cI cZ cC cG cB ad) _) rfl (by decide) fX7_nextToken_25 rfl dX7_nextToken_86 ?_
        obtain ⟨⟨r14, s15⟩, e16, h⟩ := bd_some h
        dsimp only at h
        refine k_callVi K 68 7 (Nat.le_of_ble_eq_true rfl) ((mS_68 cI cZ cC cG cB ad) _) rfl (ctX7_signAt e16) (cwV 1 K.ts gX7_nextToken_X7_signAt rfl rfl rfl hVX7_signAt ⟨Nat.le_of_ble_eq_true rfl, Nat.le_of_ble_eq_true rfl⟩) rfl rfl (Nat.le_of_ble_eq_true rfl) dX7_nextToken_89 ?_
        refine k_aload_n K dX7_nextToken_92 0 rfl ?_
        refine k_get K 68 7 4 iX7_nextToken_X7 (Nat.le_of_ble_eq_true rfl) ((mS_68 cI cZ cC cG cB ad) _) rfl (by decide) fX7_nextToken_39 rfl dX7_nextToken_93 ?_
        refine k_icmp_eq (tgt := 102) K dX7_nextToken_96 (by decide) (fun q => ?_) (fun q => ?_)
        · have h := if_t q h
          refine k_aload_n K dX7_nextToken_102 0 rfl ?_
          refine k_dup K dX7_nextToken_103 rfl ?_
          refine k_get K 68 7 2 iX7_nextToken_X7 (Nat.le_of_ble_eq_true rfl) ((mS_68 cI cZ cC cG cB ad) _) rfl (by decide) fX7_nextToken_25 rfl dX7_nextToken_104 ?_
          refine k_iconst (x := 1) K dX7_nextToken_107 (by decide) ?_
          refine k_iadd K dX7_nextToken_108 ?_
          have h := lt_some h
          refine k_putI K 68 7 2 tyX7 tyX7_ok nmX7 iX7_nextToken_X7 (Nat.le_of_ble_eq_true rfl) ((mS_68 cI cZ cC cG cB ad) _) rfl (by decide) fX7_nextToken_25 rfl (by decide +kernel) (Nat.le_of_ble_eq_true rfl) (pS_68_2 cI cZ cC cG cB ad _ _) dX7_nextToken_109 ?_
          refine k_goto (tgt := 69) K dX7_nextToken_112 (by decide) ?_
          exact k_sub [0, 1] rfl (ih _ _ h)
        · have h := if_f q h
          refine k_goto (tgt := 115) K dX7_nextToken_99 (by decide) ?_
          exact k_sub [0] rfl (hk115  _ h)
set_option maxRecDepth 100000 in
set_option maxHeartbeats 4000000 in
theorem wX7_nextToken_68 {l : Launch} {D : va_G} {cI cZ cC cG cB : ClassId} {ad : Nat → Nat} {a : Program × Env × State × MethodId} {b : Array Value × List Frame × Method × Code × (State → Prop) × Nat} {A : Nat → Prop} (K : KS (GS l 1 22 D cI cZ cC cG cB ad a b A) cX7_nextToken RX7 wsX7_nextToken none) (hn : x_n (GS l 1 22 D cI cZ cC cG cB ad a b A) = 2) {res : (Int32 × St)} (hR : HRv (GS l 1 22 D cI cZ cC cG cB ad a b A) cX7_nextToken res) : ∀ (t0 : Int32), ∀ (σ : St), mX7_nextToken_68 t0 σ = some res → Wk (GS l 1 22 D cI cZ cC cG cB ad a b A) 68 [(0, .ref (ad 68))] [.int t0] σ := by
  intro t0 σ h
  unfold mX7_nextToken_68 at h
  refine k_istore_n (lv' := [(1, _), (0, _)]) K dX7_nextToken_68 (by rw [hn]; decide) rfl ?_
  exact k_sub [1, 0] rfl (wX7_nextToken_69 K hn hR (fun  σ h => wX7_nextToken_115 K hn hR  σ h) FU _ _ h)
set_option maxRecDepth 100000 in
set_option maxHeartbeats 4000000 in
theorem wX7_nextToken_63 {l : Launch} {D : va_G} {cI cZ cC cG cB : ClassId} {ad : Nat → Nat} {a : Program × Env × State × MethodId} {b : Array Value × List Frame × Method × Code × (State → Prop) × Nat} {A : Nat → Prop} (K : KS (GS l 1 22 D cI cZ cC cG cB ad a b A) cX7_nextToken RX7 wsX7_nextToken none) (hn : x_n (GS l 1 22 D cI cZ cC cG cB ad a b A) = 2) {res : (Int32 × St)} (hR : HRv (GS l 1 22 D cI cZ cC cG cB ad a b A) cX7_nextToken res) : ∀ (σ : St), mX7_nextToken_63 σ = some res → Wk (GS l 1 22 D cI cZ cC cG cB ad a b A) 63 [(0, .ref (ad 68))] [] σ := by
  intro σ h
  unfold mX7_nextToken_63 at h
  refine k_iconst (x := 1) K dX7_nextToken_63 (by decide) ?_
  refine k_goto (tgt := 68) K dX7_nextToken_64 (by decide) ?_
  exact k_sub [0] rfl (wX7_nextToken_68 K hn hR _ _ h)
set_option maxRecDepth 100000 in
set_option maxHeartbeats 4000000 in
theorem ctX7_nextToken {l : Launch} {D : va_G} {cI cZ cC cG cB : ClassId} {ad : Nat → Nat} {σ : St} {res : (Int32 × St)} (h : mX7_nextToken σ = some res) : Cv l yX7_nextToken wsX7_nextToken 1 22 D vwCl (tysS cI cZ cC cG cB) nwS (mkS cI cZ cC cG cB ad) ad 75 [.ref (ad 68)] σ res := by
  refine c_void (cc := cX7_nextToken) (maxL := 2) (by decide) rfl (Nat.le_of_ble_eq_true rfl) fun a b hn K hR => ?_
  unfold mX7_nextToken at h
  have K : KS (GS l 1 22 D cI cZ cC cG cB ad a b (w_A ad 75)) cX7_nextToken RX7 wsX7_nextToken none := K
  have hn : x_n (GS l 1 22 D cI cZ cC cG cB ad a b (w_A ad 75)) = 2 := hn
  refine k_sub [0] rfl ?_
  refine k_aload_n K dX7_nextToken_0 0 rfl ?_
  obtain ⟨⟨r1, s2⟩, e3, h⟩ := bd_some h
  dsimp only at h
  refine k_callVv K 68 7 (Nat.le_of_ble_eq_true rfl) ((mS_68 cI cZ cC cG cB ad) _) rfl (ctX7_skipBlanks e3) (cwV 0 K.ts gX7_nextToken_X7_skipBlanks rfl rfl rfl hVX7_skipBlanks ⟨Nat.le_of_ble_eq_true rfl, Nat.le_of_ble_eq_true rfl⟩) rfl rfl (Nat.le_of_ble_eq_true rfl) dX7_nextToken_1 ?_
  refine k_aload_n K dX7_nextToken_4 0 rfl ?_
  refine k_aload_n K dX7_nextToken_5 0 rfl ?_
  refine k_get K 68 7 2 iX7_nextToken_X7 (Nat.le_of_ble_eq_true rfl) ((mS_68 cI cZ cC cG cB ad) _) rfl (by decide) fX7_nextToken_25 rfl dX7_nextToken_6 ?_
  have h := lt_some h
  refine k_putI K 68 7 3 tyX7 tyX7_ok nmX7 iX7_nextToken_X7 (Nat.le_of_ble_eq_true rfl) ((mS_68 cI cZ cC cG cB ad) _) rfl (by decide) fX7_nextToken_114 rfl (by decide +kernel) (Nat.le_of_ble_eq_true rfl) (pS_68_3 cI cZ cC cG cB ad _ _) dX7_nextToken_9 ?_
  refine k_aload_n K dX7_nextToken_12 0 rfl ?_
  refine k_iconst (x := 0) K dX7_nextToken_13 (by decide) ?_
  have h := lt_some h
  refine k_putI K 68 7 5 tyX7 tyX7_ok nmX7 iX7_nextToken_X7 (Nat.le_of_ble_eq_true rfl) ((mS_68 cI cZ cC cG cB ad) _) rfl (by decide) fX7_nextToken_46 rfl (by decide +kernel) (Nat.le_of_ble_eq_true rfl) (pS_68_5 cI cZ cC cG cB ad _ _) dX7_nextToken_14 ?_
  refine k_aload_n K dX7_nextToken_17 0 rfl ?_
  refine k_aload_n K dX7_nextToken_18 0 rfl ?_
  refine k_aload_n K dX7_nextToken_19 0 rfl ?_
  refine k_get K 68 7 2 iX7_nextToken_X7 (Nat.le_of_ble_eq_true rfl) ((mS_68 cI cZ cC cG cB ad) _) rfl (by decide) fX7_nextToken_25 rfl dX7_nextToken_20 ?_
  obtain ⟨⟨r6, s7⟩, e8, h⟩ := bd_some h
  dsimp only at h
  refine k_callVi K 68 7 (Nat.le_of_ble_eq_true rfl) ((mS_68 cI cZ cC cG cB ad) _) rfl (ctX7_signAt e8) (cwV 1 K.ts gX7_nextToken_X7_signAt rfl rfl rfl hVX7_signAt ⟨Nat.le_of_ble_eq_true rfl, Nat.le_of_ble_eq_true rfl⟩) rfl rfl (Nat.le_of_ble_eq_true rfl) dX7_nextToken_23 ?_
  have h := lt_some h
  refine k_putI K 68 7 4 tyX7 tyX7_ok nmX7 iX7_nextToken_X7 (Nat.le_of_ble_eq_true rfl) ((mS_68 cI cZ cC cG cB ad) _) rfl (by decide) fX7_nextToken_39 rfl (by decide +kernel) (Nat.le_of_ble_eq_true rfl) (pS_68_4 cI cZ cC cG cB ad _ _) dX7_nextToken_26 ?_
  refine k_aload_n K dX7_nextToken_29 0 rfl ?_
  refine k_get K 68 7 4 iX7_nextToken_X7 (Nat.le_of_ble_eq_true rfl) ((mS_68 cI cZ cC cG cB ad) _) rfl (by decide) fX7_nextToken_39 rfl dX7_nextToken_30 ?_
  refine k_if_ne (tgt := 37) K dX7_nextToken_33 (by decide) (fun q => ?_) (fun q => ?_)
  · have h := if_f q h
    refine k_aload_n K dX7_nextToken_37 0 rfl ?_
    refine k_dup K dX7_nextToken_38 rfl ?_
    refine k_get K 68 7 2 iX7_nextToken_X7 (Nat.le_of_ble_eq_true rfl) ((mS_68 cI cZ cC cG cB ad) _) rfl (by decide) fX7_nextToken_25 rfl dX7_nextToken_39 ?_
    refine k_iconst (x := 1) K dX7_nextToken_42 (by decide) ?_
    refine k_iadd K dX7_nextToken_43 ?_
    have h := lt_some h
    refine k_putI K 68 7 2 tyX7 tyX7_ok nmX7 iX7_nextToken_X7 (Nat.le_of_ble_eq_true rfl) ((mS_68 cI cZ cC cG cB ad) _) rfl (by decide) fX7_nextToken_25 rfl (by decide +kernel) (Nat.le_of_ble_eq_true rfl) (pS_68_2 cI cZ cC cG cB ad _ _) dX7_nextToken_44 ?_
    refine k_aload_n K dX7_nextToken_47 0 rfl ?_
    refine k_get K 68 7 4 iX7_nextToken_X7 (Nat.le_of_ble_eq_true rfl) ((mS_68 cI cZ cC cG cB ad) _) rfl (by decide) fX7_nextToken_39 rfl dX7_nextToken_48 ?_
    refine k_iconst (x := 1) K dX7_nextToken_51 (by decide) ?_
    refine k_icmp_eq (tgt := 63) K dX7_nextToken_52 (by decide) (fun q => ?_) (fun q => ?_)
    · have h := if_t q h
      exact k_sub [0] rfl (wX7_nextToken_63 K hn hR  _ h)
    · have h := if_f q h
      refine k_aload_n K dX7_nextToken_55 0 rfl ?_
      refine k_get K 68 7 4 iX7_nextToken_X7 (Nat.le_of_ble_eq_true rfl) ((mS_68 cI cZ cC cG cB ad) _) rfl (by decide) fX7_nextToken_39 rfl dX7_nextToken_56 ?_
      refine k_iconst (x := 2) K dX7_nextToken_59 (by decide) ?_
      refine k_icmp_ne (tgt := 67) K dX7_nextToken_60 (by decide) (fun q => ?_) (fun q => ?_)
      · have h := if_f q h
        refine k_iconst (x := 0) K dX7_nextToken_67 (by decide) ?_
        exact k_sub [0] rfl (wX7_nextToken_68 K hn hR _ _ h)
      · have h := if_t q h
        exact k_sub [0] rfl (wX7_nextToken_63 K hn hR  _ h)
  · have h := if_t q h
    exact ret_v hR h dX7_nextToken_36
-- X7_fail (0, 0)
theorem iX7_fail_X7 : ∀ w ∈ wsX70, w ∈ wsX7_fail := fun _ h => List.mem_cons_of_mem _ (List.mem_append_right _ h)
theorem fX7_fail_28 : Cond.fieldLink RX7 28 "SlopeCoins$Reader" "fault" "I" ∈ wsX7_fail := by decide +kernel
theorem fX7_fail_114 : Cond.fieldLink RX7 114 "SlopeCoins$Reader" "start" "I" ∈ wsX7_fail := by decide +kernel
set_option maxRecDepth 100000 in
set_option maxHeartbeats 4000000 in
theorem ctX7_fail {l : Launch} {D : va_G} {cI cZ cC cG cB : ClassId} {ad : Nat → Nat} {σ : St} {res : (Int32 × St)} (h : mX7_fail σ = some res) : Cv l yX7_fail wsX7_fail 0 0 D vwCl (tysS cI cZ cC cG cB) nwS (mkS cI cZ cC cG cB ad) ad 75 [.ref (ad 68)] σ res := by
  refine c_void (cc := cX7_fail) (maxL := 1) (by decide) rfl (Nat.le_of_ble_eq_true rfl) fun a b hn K hR => ?_
  unfold mX7_fail at h
  have K : KS (GS l 0 0 D cI cZ cC cG cB ad a b (w_A ad 75)) cX7_fail RX7 wsX7_fail none := K
  have hn : x_n (GS l 0 0 D cI cZ cC cG cB ad a b (w_A ad 75)) = 1 := hn
  refine k_sub [0] rfl ?_
  refine k_aload_n K dX7_fail_0 0 rfl ?_
  refine k_get K 68 7 6 iX7_fail_X7 (Nat.le_of_ble_eq_true rfl) ((mS_68 cI cZ cC cG cB ad) _) rfl (by decide) fX7_fail_28 rfl dX7_fail_1 ?_
  refine k_iconst (x := (-1)) K dX7_fail_4 (by decide) ?_
  refine k_icmp_ne (tgt := 16) K dX7_fail_5 (by decide) (fun q => ?_) (fun q => ?_)
  · have h := if_f q h
    exact ret_v hR h dX7_fail_16
  · have h := if_t q h
    refine k_aload_n K dX7_fail_8 0 rfl ?_
    refine k_aload_n K dX7_fail_9 0 rfl ?_
    refine k_get K 68 7 3 iX7_fail_X7 (Nat.le_of_ble_eq_true rfl) ((mS_68 cI cZ cC cG cB ad) _) rfl (by decide) fX7_fail_114 rfl dX7_fail_10 ?_
    have h := lt_some h
    refine k_putI K 68 7 6 tyX7 tyX7_ok nmX7 iX7_fail_X7 (Nat.le_of_ble_eq_true rfl) ((mS_68 cI cZ cC cG cB ad) _) rfl (by decide) fX7_fail_28 rfl (by decide +kernel) (Nat.le_of_ble_eq_true rfl) (pS_68_6 cI cZ cC cG cB ad _ _) dX7_fail_13 ?_
    exact ret_v hR h dX7_fail_16
-- X7_readNumber (2, 43)
theorem iX7_readNumber_X7 : ∀ w ∈ wsX70, w ∈ wsX7_readNumber := fun _ h => List.mem_cons_of_mem _ (List.mem_append_right _ h)
theorem fX7_readNumber_28 : Cond.fieldLink RX7 28 "SlopeCoins$Reader" "fault" "I" ∈ wsX7_readNumber := by decide +kernel
theorem fX7_readNumber_39 : Cond.fieldLink RX7 39 "SlopeCoins$Reader" "token" "I" ∈ wsX7_readNumber := by decide +kernel
theorem fX7_readNumber_46 : Cond.fieldLink RX7 46 "SlopeCoins$Reader" "value" "I" ∈ wsX7_readNumber := by decide +kernel
set_option maxRecDepth 100000 in
set_option maxHeartbeats 4000000 in
theorem ctX7_readNumber {l : Launch} {D : va_G} {cI cZ cC cG cB : ClassId} {ad : Nat → Nat} {v1 : Int32} {v2 : Int32} {σ : St} {res : (Int32 × St)} (h : mX7_readNumber v1 v2 σ = some res) : Ci l yX7_readNumber wsX7_readNumber 2 43 D vwCl (tysS cI cZ cC cG cB) nwS (mkS cI cZ cC cG cB ad) ad 75 [.ref (ad 68), .int v1, .int v2] σ res := by
  refine c_int (cc := cX7_readNumber) (maxL := 3) (by decide) rfl (Nat.le_of_ble_eq_true rfl) fun a b hn K hR => ?_
  unfold mX7_readNumber at h
  have K : KS (GS l 2 43 D cI cZ cC cG cB ad a b (w_A ad 75)) cX7_readNumber RX7 wsX7_readNumber (some .int) := K
  have hn : x_n (GS l 2 43 D cI cZ cC cG cB ad a b (w_A ad 75)) = 3 := hn
  refine k_sub [0, 1, 2] rfl ?_
  refine k_aload_n K dX7_readNumber_0 0 rfl ?_
  refine k_get K 68 7 6 iX7_readNumber_X7 (Nat.le_of_ble_eq_true rfl) ((mS_68 cI cZ cC cG cB ad) _) rfl (by decide) fX7_readNumber_28 rfl dX7_readNumber_1 ?_
  refine k_iconst (x := (-1)) K dX7_readNumber_4 (by decide) ?_
  refine k_icmp_eq (tgt := 10) K dX7_readNumber_5 (by decide) (fun q => ?_) (fun q => ?_)
  · have h := if_t q h
    refine k_aload_n K dX7_readNumber_10 0 rfl ?_
    obtain ⟨⟨r1, s2⟩, e3, h⟩ := bd_some h
    dsimp only at h
    refine k_callVv K 68 7 (Nat.le_of_ble_eq_true rfl) ((mS_68 cI cZ cC cG cB ad) _) rfl (ctX7_nextToken e3) (cwV 0 K.ts gX7_readNumber_X7_nextToken rfl rfl rfl hVX7_nextToken ⟨Nat.le_of_ble_eq_true rfl, Nat.le_of_ble_eq_true rfl⟩) rfl rfl (Nat.le_of_ble_eq_true rfl) dX7_readNumber_11 ?_
    refine k_aload_n K dX7_readNumber_14 0 rfl ?_
    refine k_get K 68 7 4 iX7_readNumber_X7 (Nat.le_of_ble_eq_true rfl) ((mS_68 cI cZ cC cG cB ad) _) rfl (by decide) fX7_readNumber_39 rfl dX7_readNumber_15 ?_
    refine k_iconst (x := 2) K dX7_readNumber_18 (by decide) ?_
    refine k_icmp_ne (tgt := 38) K dX7_readNumber_19 (by decide) (fun q => ?_) (fun q => ?_)
    · have h := if_f q h
      refine k_aload_n K dX7_readNumber_38 0 rfl ?_
      obtain ⟨⟨r4, s5⟩, e6, h⟩ := bd_some h
      dsimp only at h
      refine k_callVv K 68 7 (Nat.le_of_ble_eq_true rfl) ((mS_68 cI cZ cC cG cB ad) _) rfl (ctX7_fail e6) (cwV 0 K.ts gX7_readNumber_X7_fail rfl rfl rfl hVX7_fail ⟨Nat.le_of_ble_eq_true rfl, Nat.le_of_ble_eq_true rfl⟩) rfl rfl (Nat.le_of_ble_eq_true rfl) dX7_readNumber_39 ?_
      refine k_iconst (x := 0) K dX7_readNumber_42 (by decide) ?_
      exact ret_i hR h dX7_readNumber_43 trivial
    · have h := if_t q h
      refine k_aload_n K dX7_readNumber_22 0 rfl ?_
      refine k_get K 68 7 5 iX7_readNumber_X7 (Nat.le_of_ble_eq_true rfl) ((mS_68 cI cZ cC cG cB ad) _) rfl (by decide) fX7_readNumber_46 rfl dX7_readNumber_23 ?_
      refine k_iload_n K dX7_readNumber_26 1 rfl ?_
      refine k_icmp_lt (tgt := 38) K dX7_readNumber_27 (by decide) (fun q => ?_) (fun q => ?_)
      · have h := if_t q h
        refine k_aload_n K dX7_readNumber_38 0 rfl ?_
        obtain ⟨⟨r7, s8⟩, e9, h⟩ := bd_some h
        dsimp only at h
        refine k_callVv K 68 7 (Nat.le_of_ble_eq_true rfl) ((mS_68 cI cZ cC cG cB ad) _) rfl (ctX7_fail e9) (cwV 0 K.ts gX7_readNumber_X7_fail rfl rfl rfl hVX7_fail ⟨Nat.le_of_ble_eq_true rfl, Nat.le_of_ble_eq_true rfl⟩) rfl rfl (Nat.le_of_ble_eq_true rfl) dX7_readNumber_39 ?_
        refine k_iconst (x := 0) K dX7_readNumber_42 (by decide) ?_
        exact ret_i hR h dX7_readNumber_43 trivial
      · have h := if_f q h
        refine k_aload_n K dX7_readNumber_30 0 rfl ?_
        refine k_get K 68 7 5 iX7_readNumber_X7 (Nat.le_of_ble_eq_true rfl) ((mS_68 cI cZ cC cG cB ad) _) rfl (by decide) fX7_readNumber_46 rfl dX7_readNumber_31 ?_
        refine k_iload_n K dX7_readNumber_34 2 rfl ?_
        refine k_icmp_le (tgt := 44) K dX7_readNumber_35 (by decide) (fun q => ?_) (fun q => ?_)
        · have h := if_f q h
          refine k_aload_n K dX7_readNumber_44 0 rfl ?_
          refine k_get K 68 7 5 iX7_readNumber_X7 (Nat.le_of_ble_eq_true rfl) ((mS_68 cI cZ cC cG cB ad) _) rfl (by decide) fX7_readNumber_46 rfl dX7_readNumber_45 ?_
          exact ret_i hR h dX7_readNumber_48 trivial
        · have h := if_t q h
          refine k_aload_n K dX7_readNumber_38 0 rfl ?_
          obtain ⟨⟨r10, s11⟩, e12, h⟩ := bd_some h
          dsimp only at h
          refine k_callVv K 68 7 (Nat.le_of_ble_eq_true rfl) ((mS_68 cI cZ cC cG cB ad) _) rfl (ctX7_fail e12) (cwV 0 K.ts gX7_readNumber_X7_fail rfl rfl rfl hVX7_fail ⟨Nat.le_of_ble_eq_true rfl, Nat.le_of_ble_eq_true rfl⟩) rfl rfl (Nat.le_of_ble_eq_true rfl) dX7_readNumber_39 ?_
          refine k_iconst (x := 0) K dX7_readNumber_42 (by decide) ?_
          exact ret_i hR h dX7_readNumber_43 trivial
  · have h := if_f q h
    refine k_iconst (x := 0) K dX7_readNumber_8 (by decide) ?_
    exact ret_i hR h dX7_readNumber_9 trivial
-- X7_readKind (3, 65)
theorem iX7_readKind_X2 : ∀ w ∈ wsX20, w ∈ wsX7_readKind := fun _ h => List.mem_cons_of_mem _ (List.mem_append_left _ (List.mem_append_right _ h))
theorem iX7_readKind_X7 : ∀ w ∈ wsX70, w ∈ wsX7_readKind := fun _ h => List.mem_cons_of_mem _ (List.mem_append_right _ h)
theorem fX7_readKind_28 : Cond.fieldLink RX7 28 "SlopeCoins$Reader" "fault" "I" ∈ wsX7_readKind := by decide +kernel
theorem fX7_readKind_104 : Cond.fieldLink RX7 104 "SlopeCoins$City" "kinds" "I" ∈ wsX7_readKind := by decide +kernel
set_option maxRecDepth 100000 in
set_option maxHeartbeats 4000000 in
theorem ctX7_readKind {l : Launch} {D : va_G} {cI cZ cC cG cB : ClassId} {ad : Nat → Nat} {σ : St} {res : (Int32 × St)} (h : mX7_readKind σ = some res) : Cv l yX7_readKind wsX7_readKind 3 65 D vwCl (tysS cI cZ cC cG cB) nwS (mkS cI cZ cC cG cB ad) ad 75 [.ref (ad 68), .ref (ad 18)] σ res := by
  refine c_void (cc := cX7_readKind) (maxL := 5) (by decide) rfl (Nat.le_of_ble_eq_true rfl) fun a b hn K hR => ?_
  unfold mX7_readKind at h
  have K : KS (GS l 3 65 D cI cZ cC cG cB ad a b (w_A ad 75)) cX7_readKind RX7 wsX7_readKind none := K
  have hn : x_n (GS l 3 65 D cI cZ cC cG cB ad a b (w_A ad 75)) = 5 := hn
  refine k_sub [0, 1] rfl ?_
  refine k_aload_n K dX7_readKind_0 1 rfl ?_
  refine k_get K 18 2 4 iX7_readKind_X2 (Nat.le_of_ble_eq_true rfl) ((mS_18 cI cZ cC cG cB ad) _) rfl (by decide) fX7_readKind_104 rfl dX7_readKind_1 ?_
  refine k_iconst (x := 5) K dX7_readKind_4 (by decide) ?_
  refine k_icmp_lt (tgt := 13) K dX7_readKind_5 (by decide) (fun q => ?_) (fun q => ?_)
  · have h := if_t q h
    refine k_aload_n K dX7_readKind_13 0 rfl ?_
    refine k_iconst (x := 1) K dX7_readKind_14 (by decide) ?_
    refine k_bipush (x := 9) K dX7_readKind_15 (by decide) ?_
    obtain ⟨⟨r1, s2⟩, e3, h⟩ := bd_some h
    dsimp only at h
    refine k_callVi K 68 7 (Nat.le_of_ble_eq_true rfl) ((mS_68 cI cZ cC cG cB ad) _) rfl (ctX7_readNumber e3) (cwV 2 K.ts gX7_readKind_X7_readNumber rfl rfl rfl hVX7_readNumber ⟨Nat.le_of_ble_eq_true rfl, Nat.le_of_ble_eq_true rfl⟩) rfl rfl (Nat.le_of_ble_eq_true rfl) dX7_readKind_17 ?_
    refine k_istore_n (lv' := [(2, _), (0, _), (1, _)]) K dX7_readKind_20 (by rw [hn]; decide) rfl ?_
    refine k_aload_n K dX7_readKind_21 1 rfl ?_
    refine k_iconst (x := 1) K dX7_readKind_22 (by decide) ?_
    refine k_bipush (x := 99) K dX7_readKind_23 (by decide) ?_
    obtain ⟨⟨r4, s5⟩, e6, h⟩ := bd_some h
    dsimp only at h
    refine k_callVi K 68 7 (Nat.le_of_ble_eq_true rfl) ((mS_68 cI cZ cC cG cB ad) _) rfl (ctX7_readNumber e6) (cwV 2 K.ts gX7_readKind_X7_readNumber rfl rfl rfl hVX7_readNumber ⟨Nat.le_of_ble_eq_true rfl, Nat.le_of_ble_eq_true rfl⟩) rfl rfl (Nat.le_of_ble_eq_true rfl) dX7_readKind_25 ?_
    refine k_istore_n (lv' := [(3, _), (2, _), (0, _), (1, _)]) K dX7_readKind_28 (by rw [hn]; decide) rfl ?_
    refine k_aload_n K dX7_readKind_29 2 rfl ?_
    refine k_iconst (x := 0) K dX7_readKind_30 (by decide) ?_
    refine k_iconst (x := 1) K dX7_readKind_31 (by decide) ?_
    obtain ⟨⟨r7, s8⟩, e9, h⟩ := bd_some h
    dsimp only at h
    refine k_callVi K 68 7 (Nat.le_of_ble_eq_true rfl) ((mS_68 cI cZ cC cG cB ad) _) rfl (ctX7_readNumber e9) (cwV 2 K.ts gX7_readKind_X7_readNumber rfl rfl rfl hVX7_readNumber ⟨Nat.le_of_ble_eq_true rfl, Nat.le_of_ble_eq_true rfl⟩) rfl rfl (Nat.le_of_ble_eq_true rfl) dX7_readKind_32 ?_
    refine k_istore (lv' := [(4, _), (3, _), (2, _), (0, _), (1, _)]) K dX7_readKind_35 (by rw [hn]; decide) rfl ?_
    refine k_aload_n K dX7_readKind_37 3 rfl ?_
    refine k_get K 68 7 6 iX7_readKind_X7 (Nat.le_of_ble_eq_true rfl) ((mS_68 cI cZ cC cG cB ad) _) rfl (by decide) fX7_readKind_28 rfl dX7_readKind_38 ?_
    refine k_iconst (x := (-1)) K dX7_readKind_41 (by decide) ?_
    refine k_icmp_ne (tgt := 53) K dX7_readKind_42 (by decide) (fun q => ?_) (fun q => ?_)
    · have h := if_f q h
      exact ret_v hR h dX7_readKind_53
    · have h := if_t q h
      refine k_aload_n K dX7_readKind_45 4 rfl ?_
      refine k_iload_n K dX7_readKind_46 2 rfl ?_
      refine k_iload_n K dX7_readKind_47 1 rfl ?_
      refine k_iload K dX7_readKind_48 0 rfl ?_
      obtain ⟨⟨r10, s11⟩, e12, h⟩ := bd_some h
      dsimp only at h
      refine k_callVv K 18 2 (Nat.le_of_ble_eq_true rfl) ((mS_18 cI cZ cC cG cB ad) _) rfl (ctX2_addKind (by decide) e12) (cwV 3 K.ts gX7_readKind_X2_addKind rfl rfl rfl hVX2_addKind ⟨Nat.le_of_ble_eq_true rfl, Nat.le_of_ble_eq_true rfl⟩) rfl rfl (Nat.le_of_ble_eq_true rfl) dX7_readKind_50 ?_
      exact ret_v hR h dX7_readKind_53
  · have h := if_f q h
    refine k_aload_n K dX7_readKind_8 0 rfl ?_
    obtain ⟨⟨r13, s14⟩, e15, h⟩ := bd_some h
    dsimp only at h
    refine k_callVv K 68 7 (Nat.le_of_ble_eq_true rfl) ((mS_68 cI cZ cC cG cB ad) _) rfl (ctX7_fail e15) (cwV 0 K.ts gX7_readKind_X7_fail rfl rfl rfl hVX7_fail ⟨Nat.le_of_ble_eq_true rfl, Nat.le_of_ble_eq_true rfl⟩) rfl rfl (Nat.le_of_ble_eq_true rfl) dX7_readKind_9 ?_
    exact ret_v hR h dX7_readKind_12
-- X7_readClosing (2, 43)
theorem iX7_readClosing_X7 : ∀ w ∈ wsX70, w ∈ wsX7_readClosing := fun _ h => List.mem_cons_of_mem _ (List.mem_append_right _ h)
theorem fX7_readClosing_28 : Cond.fieldLink RX7 28 "SlopeCoins$Reader" "fault" "I" ∈ wsX7_readClosing := by decide +kernel
theorem fX7_readClosing_39 : Cond.fieldLink RX7 39 "SlopeCoins$Reader" "token" "I" ∈ wsX7_readClosing := by decide +kernel
set_option maxRecDepth 100000 in
set_option maxHeartbeats 4000000 in
theorem ctX7_readClosing {l : Launch} {D : va_G} {cI cZ cC cG cB : ClassId} {ad : Nat → Nat} {σ : St} {res : (Int32 × St)} (h : mX7_readClosing σ = some res) : Cv l yX7_readClosing wsX7_readClosing 2 43 D vwCl (tysS cI cZ cC cG cB) nwS (mkS cI cZ cC cG cB ad) ad 75 [.ref (ad 68)] σ res := by
  refine c_void (cc := cX7_readClosing) (maxL := 1) (by decide) rfl (Nat.le_of_ble_eq_true rfl) fun a b hn K hR => ?_
  unfold mX7_readClosing at h
  have K : KS (GS l 2 43 D cI cZ cC cG cB ad a b (w_A ad 75)) cX7_readClosing RX7 wsX7_readClosing none := K
  have hn : x_n (GS l 2 43 D cI cZ cC cG cB ad a b (w_A ad 75)) = 1 := hn
  refine k_sub [0] rfl ?_
  refine k_aload_n K dX7_readClosing_0 0 rfl ?_
  refine k_get K 68 7 6 iX7_readClosing_X7 (Nat.le_of_ble_eq_true rfl) ((mS_68 cI cZ cC cG cB ad) _) rfl (by decide) fX7_readClosing_28 rfl dX7_readClosing_1 ?_
  refine k_iconst (x := (-1)) K dX7_readClosing_4 (by decide) ?_
  refine k_icmp_eq (tgt := 9) K dX7_readClosing_5 (by decide) (fun q => ?_) (fun q => ?_)
  · have h := if_t q h
    refine k_aload_n K dX7_readClosing_9 0 rfl ?_
    obtain ⟨⟨r1, s2⟩, e3, h⟩ := bd_some h
    dsimp only at h
    refine k_callVv K 68 7 (Nat.le_of_ble_eq_true rfl) ((mS_68 cI cZ cC cG cB ad) _) rfl (ctX7_nextToken e3) (cwV 0 K.ts gX7_readClosing_X7_nextToken rfl rfl rfl hVX7_nextToken ⟨Nat.le_of_ble_eq_true rfl, Nat.le_of_ble_eq_true rfl⟩) rfl rfl (Nat.le_of_ble_eq_true rfl) dX7_readClosing_10 ?_
    refine k_aload_n K dX7_readClosing_13 0 rfl ?_
    refine k_get K 68 7 4 iX7_readClosing_X7 (Nat.le_of_ble_eq_true rfl) ((mS_68 cI cZ cC cG cB ad) _) rfl (by decide) fX7_readClosing_39 rfl dX7_readClosing_14 ?_
    refine k_iconst (x := 3) K dX7_readClosing_17 (by decide) ?_
    refine k_icmp_eq (tgt := 25) K dX7_readClosing_18 (by decide) (fun q => ?_) (fun q => ?_)
    · have h := if_t q h
      exact ret_v hR h dX7_readClosing_25
    · have h := if_f q h
      refine k_aload_n K dX7_readClosing_21 0 rfl ?_
      obtain ⟨⟨r4, s5⟩, e6, h⟩ := bd_some h
      dsimp only at h
      refine k_callVv K 68 7 (Nat.le_of_ble_eq_true rfl) ((mS_68 cI cZ cC cG cB ad) _) rfl (ctX7_fail e6) (cwV 0 K.ts gX7_readClosing_X7_fail rfl rfl rfl hVX7_fail ⟨Nat.le_of_ble_eq_true rfl, Nat.le_of_ble_eq_true rfl⟩) rfl rfl (Nat.le_of_ble_eq_true rfl) dX7_readClosing_22 ?_
      exact ret_v hR h dX7_readClosing_25
  · have h := if_f q h
    exact ret_v hR h dX7_readClosing_8
-- X7_readFigure (1, 22)
theorem iX7_readFigure_X7 : ∀ w ∈ wsX70, w ∈ wsX7_readFigure := fun _ h => List.mem_cons_of_mem _ (List.mem_append_right _ h)
theorem fX7_readFigure_9 : Cond.fieldLink RX7 9 "SlopeCoins$Reader" "bytes" "[C" ∈ wsX7_readFigure := by decide +kernel
theorem fX7_readFigure_25 : Cond.fieldLink RX7 25 "SlopeCoins$Reader" "place" "I" ∈ wsX7_readFigure := by decide +kernel
theorem fX7_readFigure_28 : Cond.fieldLink RX7 28 "SlopeCoins$Reader" "fault" "I" ∈ wsX7_readFigure := by decide +kernel
theorem fX7_readFigure_114 : Cond.fieldLink RX7 114 "SlopeCoins$Reader" "start" "I" ∈ wsX7_readFigure := by decide +kernel
set_option maxRecDepth 100000 in
set_option maxHeartbeats 4000000 in
theorem ctX7_readFigure {l : Launch} {D : va_G} {cI cZ cC cG cB : ClassId} {ad : Nat → Nat} {σ : St} {res : (Int32 × St)} (h : mX7_readFigure σ = some res) : Ci l yX7_readFigure wsX7_readFigure 1 22 D vwCl (tysS cI cZ cC cG cB) nwS (mkS cI cZ cC cG cB ad) ad 75 [.ref (ad 68)] σ res := by
  refine c_int (cc := cX7_readFigure) (maxL := 1) (by decide) rfl (Nat.le_of_ble_eq_true rfl) fun a b hn K hR => ?_
  unfold mX7_readFigure at h
  have K : KS (GS l 1 22 D cI cZ cC cG cB ad a b (w_A ad 75)) cX7_readFigure RX7 wsX7_readFigure (some .int) := K
  have hn : x_n (GS l 1 22 D cI cZ cC cG cB ad a b (w_A ad 75)) = 1 := hn
  refine k_sub [0] rfl ?_
  refine k_aload_n K dX7_readFigure_0 0 rfl ?_
  refine k_get K 68 7 6 iX7_readFigure_X7 (Nat.le_of_ble_eq_true rfl) ((mS_68 cI cZ cC cG cB ad) _) rfl (by decide) fX7_readFigure_28 rfl dX7_readFigure_1 ?_
  refine k_iconst (x := (-1)) K dX7_readFigure_4 (by decide) ?_
  refine k_icmp_eq (tgt := 10) K dX7_readFigure_5 (by decide) (fun q => ?_) (fun q => ?_)
  · have h := if_t q h
    refine k_aload_n K dX7_readFigure_10 0 rfl ?_
    obtain ⟨⟨r1, s2⟩, e3, h⟩ := bd_some h
    dsimp only at h
    refine k_callVv K 68 7 (Nat.le_of_ble_eq_true rfl) ((mS_68 cI cZ cC cG cB ad) _) rfl (ctX7_skipBlanks e3) (cwV 0 K.ts gX7_readFigure_X7_skipBlanks rfl rfl rfl hVX7_skipBlanks ⟨Nat.le_of_ble_eq_true rfl, Nat.le_of_ble_eq_true rfl⟩) rfl rfl (Nat.le_of_ble_eq_true rfl) dX7_readFigure_11 ?_
    refine k_aload_n K dX7_readFigure_14 0 rfl ?_
    refine k_aload_n K dX7_readFigure_15 0 rfl ?_
    refine k_get K 68 7 2 iX7_readFigure_X7 (Nat.le_of_ble_eq_true rfl) ((mS_68 cI cZ cC cG cB ad) _) rfl (by decide) fX7_readFigure_25 rfl dX7_readFigure_16 ?_
    have h := lt_some h
    refine k_putI K 68 7 3 tyX7 tyX7_ok nmX7 iX7_readFigure_X7 (Nat.le_of_ble_eq_true rfl) ((mS_68 cI cZ cC cG cB ad) _) rfl (by decide) fX7_readFigure_114 rfl (by decide +kernel) (Nat.le_of_ble_eq_true rfl) (pS_68_3 cI cZ cC cG cB ad _ _) dX7_readFigure_19 ?_
    refine k_aload_n K dX7_readFigure_22 0 rfl ?_
    refine k_aload_n K dX7_readFigure_23 0 rfl ?_
    refine k_get K 68 7 2 iX7_readFigure_X7 (Nat.le_of_ble_eq_true rfl) ((mS_68 cI cZ cC cG cB ad) _) rfl (by decide) fX7_readFigure_25 rfl dX7_readFigure_24 ?_
    obtain ⟨⟨r5, s6⟩, e7, h⟩ := bd_some h
    dsimp only at h
    refine k_callVi K 68 7 (Nat.le_of_ble_eq_true rfl) ((mS_68 cI cZ cC cG cB ad) _) rfl (ctX7_signAt e7) (cwV 1 K.ts gX7_readFigure_X7_signAt rfl rfl rfl hVX7_signAt ⟨Nat.le_of_ble_eq_true rfl, Nat.le_of_ble_eq_true rfl⟩) rfl rfl (Nat.le_of_ble_eq_true rfl) dX7_readFigure_27 ?_
    refine k_iconst (x := 2) K dX7_readFigure_30 (by decide) ?_
    refine k_icmp_eq (tgt := 40) K dX7_readFigure_31 (by decide) (fun q => ?_) (fun q => ?_)
    · have h := if_t q h
      refine k_aload_n K dX7_readFigure_40 0 rfl ?_
      refine k_dup K dX7_readFigure_41 rfl ?_
      refine k_get K 68 7 2 iX7_readFigure_X7 (Nat.le_of_ble_eq_true rfl) ((mS_68 cI cZ cC cG cB ad) _) rfl (by decide) fX7_readFigure_25 rfl dX7_readFigure_42 ?_
      refine k_iconst (x := 1) K dX7_readFigure_45 (by decide) ?_
      refine k_iadd K dX7_readFigure_46 ?_
      have h := lt_some h
      refine k_putI K 68 7 2 tyX7 tyX7_ok nmX7 iX7_readFigure_X7 (Nat.le_of_ble_eq_true rfl) ((mS_68 cI cZ cC cG cB ad) _) rfl (by decide) fX7_readFigure_25 rfl (by decide +kernel) (Nat.le_of_ble_eq_true rfl) (pS_68_2 cI cZ cC cG cB ad _ _) dX7_readFigure_47 ?_
      refine k_aload_n K dX7_readFigure_50 0 rfl ?_
      obtain ⟨g9, h⟩ := gd_some h
      refine k_get K 68 7 0 iX7_readFigure_X7 (Nat.le_of_ble_eq_true rfl) ((mS_68 cI cZ cC cG cB ad) _) rfl (by decide) fX7_readFigure_9 (rd_bytes ad g9) dX7_readFigure_51 ?_
      refine k_aload_n K dX7_readFigure_54 0 rfl ?_
      refine k_get K 68 7 3 iX7_readFigure_X7 (Nat.le_of_ble_eq_true rfl) ((mS_68 cI cZ cC cG cB ad) _) rfl (by decide) fX7_readFigure_114 rfl dX7_readFigure_55 ?_
      obtain ⟨g10, h⟩ := gd_some h
      refine k_cld K 1 2 (Nat.le_of_ble_eq_true rfl) ((mS_1 cI cZ cC cG cB ad) _) rfl g10 dX7_readFigure_58 ?_
      refine k_bipush (x := 48) K dX7_readFigure_59 (by decide) ?_
      refine k_isub K dX7_readFigure_61 ?_
      exact ret_i hR h dX7_readFigure_62 trivial
    · have h := if_f q h
      refine k_aload_n K dX7_readFigure_34 0 rfl ?_
      obtain ⟨⟨r11, s12⟩, e13, h⟩ := bd_some h
      dsimp only at h
      refine k_callVv K 68 7 (Nat.le_of_ble_eq_true rfl) ((mS_68 cI cZ cC cG cB ad) _) rfl (ctX7_fail e13) (cwV 0 K.ts gX7_readFigure_X7_fail rfl rfl rfl hVX7_fail ⟨Nat.le_of_ble_eq_true rfl, Nat.le_of_ble_eq_true rfl⟩) rfl rfl (Nat.le_of_ble_eq_true rfl) dX7_readFigure_35 ?_
      refine k_iconst (x := 0) K dX7_readFigure_38 (by decide) ?_
      exact ret_i hR h dX7_readFigure_39 trivial
  · have h := if_f q h
    refine k_iconst (x := 0) K dX7_readFigure_8 (by decide) ?_
    exact ret_i hR h dX7_readFigure_9 trivial
-- X7_readGround (3, 65)
theorem iX7_readGround_X2 : ∀ w ∈ wsX20, w ∈ wsX7_readGround := fun _ h => List.mem_cons_of_mem _ (List.mem_append_right _ h)
theorem iX7_readGround_X7 : ∀ w ∈ wsX70, w ∈ wsX7_readGround := fun _ h => List.mem_cons_of_mem _ (List.mem_append_left _ (List.mem_append_right _ h))
theorem fX7_readGround_28 : Cond.fieldLink RX7 28 "SlopeCoins$Reader" "fault" "I" ∈ wsX7_readGround := by decide +kernel
theorem fX7_readGround_75 : Cond.fieldLink RX7 75 "SlopeCoins$City" "cells" "I" ∈ wsX7_readGround := by decide +kernel
theorem fX7_readGround_78 : Cond.fieldLink RX7 78 "SlopeCoins$City" "height" "[I" ∈ wsX7_readGround := by decide +kernel
set_option maxRecDepth 100000 in
set_option maxHeartbeats 4000000 in
theorem wX7_readGround_33 {l : Launch} {D : va_G} {cI cZ cC cG cB : ClassId} {ad : Nat → Nat} {a : Program × Env × State × MethodId} {b : Array Value × List Frame × Method × Code × (State → Prop) × Nat} {A : Nat → Prop} (K : KS (GS l 3 65 D cI cZ cC cG cB ad a b A) cX7_readGround RX7 wsX7_readGround none) (hn : x_n (GS l 3 65 D cI cZ cC cG cB ad a b A) = 5) {res : (Int32 × St)} (hR : HRv (GS l 3 65 D cI cZ cC cG cB ad a b A) cX7_readGround res) : ∀ (n : Nat) (v4 : Int32) (σ : St), mX7_readGround_33 n v4 σ = some res → Wk (GS l 3 65 D cI cZ cC cG cB ad a b A) 33 [(0, .ref (ad 68)), (1, .ref (ad 18)), (4, .int v4)] [] σ := by
  intro n
  induction n with
  | zero => intro v4 σ h; cases h
  | succ n ih =>
    intro v4 σ h
    unfold mX7_readGround_33 at h
    refine k_iload K dX7_readGround_33 2 rfl ?_
    refine k_aload_n K dX7_readGround_35 1 rfl ?_
    refine k_get K 18 2 2 iX7_readGround_X2 (Nat.le_of_ble_eq_true rfl) ((mS_18 cI cZ cC cG cB ad) _) rfl (by decide) fX7_readGround_75 rfl dX7_readGround_36 ?_
    refine k_icmp_ge (tgt := 59) K dX7_readGround_39 (by decide) (fun q => ?_) (fun q => ?_)
    · have h := if_f q h
      exact ret_v hR h dX7_readGround_59
    · have h := if_t q h
      refine k_aload_n K dX7_readGround_42 1 rfl ?_
      refine k_get K 18 2 5 iX7_readGround_X2 (Nat.le_of_ble_eq_true rfl) ((mS_18 cI cZ cC cG cB ad) _) rfl (by decide) fX7_readGround_78 rfl dX7_readGround_43 ?_
      refine k_iload K dX7_readGround_46 2 rfl ?_
      refine k_aload_n K dX7_readGround_48 0 rfl ?_
      obtain ⟨⟨r10, s11⟩, e12, h⟩ := bd_some h
      dsimp only at h
      refine k_callVi K 68 7 (Nat.le_of_ble_eq_true rfl) ((mS_68 cI cZ cC cG cB ad) _) rfl (ctX7_readFigure e12) (cwV 0 K.ts gX7_readGround_X7_readFigure rfl rfl rfl hVX7_readFigure ⟨Nat.le_of_ble_eq_true rfl, Nat.le_of_ble_eq_true rfl⟩) rfl rfl (Nat.le_of_ble_eq_true rfl) dX7_readGround_49 ?_
      obtain ⟨g13, h⟩ := gd_some h
      have h := lt_some h
      refine k_ist K 19 0 (Nat.le_of_ble_eq_true rfl) (mS_19 cI cZ cC cG cB ad) rfl g13 dX7_readGround_52 ?_
      have h := lt_some h
      refine k_iinc (lv' := [(4, _), (0, _), (1, _)]) K dX7_readGround_53 2 rfl (v := _ + 1) (by rfl) (by rw [hn]; decide) rfl ?_
      refine k_goto (tgt := 33) K dX7_readGround_56 (by decide) ?_
      exact k_sub [1, 2, 0] rfl (ih _ _ h)
set_option maxRecDepth 100000 in
set_option maxHeartbeats 4000000 in
theorem ctX7_readGround {l : Launch} {D : va_G} {cI cZ cC cG cB : ClassId} {ad : Nat → Nat} {σ : St} {res : (Int32 × St)} (h : mX7_readGround σ = some res) : Cv l yX7_readGround wsX7_readGround 3 65 D vwCl (tysS cI cZ cC cG cB) nwS (mkS cI cZ cC cG cB ad) ad 75 [.ref (ad 68), .ref (ad 18)] σ res := by
  refine c_void (cc := cX7_readGround) (maxL := 5) (by decide) rfl (Nat.le_of_ble_eq_true rfl) fun a b hn K hR => ?_
  unfold mX7_readGround at h
  have K : KS (GS l 3 65 D cI cZ cC cG cB ad a b (w_A ad 75)) cX7_readGround RX7 wsX7_readGround none := K
  have hn : x_n (GS l 3 65 D cI cZ cC cG cB ad a b (w_A ad 75)) = 5 := hn
  refine k_sub [0, 1] rfl ?_
  refine k_aload_n K dX7_readGround_0 0 rfl ?_
  refine k_iconst (x := 1) K dX7_readGround_1 (by decide) ?_
  refine k_bipush (x := 6) K dX7_readGround_2 (by decide) ?_
  obtain ⟨⟨r1, s2⟩, e3, h⟩ := bd_some h
  dsimp only at h
  refine k_callVi K 68 7 (Nat.le_of_ble_eq_true rfl) ((mS_68 cI cZ cC cG cB ad) _) rfl (ctX7_readNumber e3) (cwV 2 K.ts gX7_readGround_X7_readNumber rfl rfl rfl hVX7_readNumber ⟨Nat.le_of_ble_eq_true rfl, Nat.le_of_ble_eq_true rfl⟩) rfl rfl (Nat.le_of_ble_eq_true rfl) dX7_readGround_4 ?_
  refine k_istore_n (lv' := [(2, _), (0, _), (1, _)]) K dX7_readGround_7 (by rw [hn]; decide) rfl ?_
  refine k_aload_n K dX7_readGround_8 1 rfl ?_
  refine k_iconst (x := 1) K dX7_readGround_9 (by decide) ?_
  refine k_iconst (x := 5) K dX7_readGround_10 (by decide) ?_
  obtain ⟨⟨r4, s5⟩, e6, h⟩ := bd_some h
  dsimp only at h
  refine k_callVi K 68 7 (Nat.le_of_ble_eq_true rfl) ((mS_68 cI cZ cC cG cB ad) _) rfl (ctX7_readNumber e6) (cwV 2 K.ts gX7_readGround_X7_readNumber rfl rfl rfl hVX7_readNumber ⟨Nat.le_of_ble_eq_true rfl, Nat.le_of_ble_eq_true rfl⟩) rfl rfl (Nat.le_of_ble_eq_true rfl) dX7_readGround_11 ?_
  refine k_istore_n (lv' := [(3, _), (2, _), (0, _), (1, _)]) K dX7_readGround_14 (by rw [hn]; decide) rfl ?_
  refine k_aload_n K dX7_readGround_15 2 rfl ?_
  refine k_get K 68 7 6 iX7_readGround_X7 (Nat.le_of_ble_eq_true rfl) ((mS_68 cI cZ cC cG cB ad) _) rfl (by decide) fX7_readGround_28 rfl dX7_readGround_16 ?_
  refine k_iconst (x := (-1)) K dX7_readGround_19 (by decide) ?_
  refine k_icmp_eq (tgt := 24) K dX7_readGround_20 (by decide) (fun q => ?_) (fun q => ?_)
  · have h := if_t q h
    refine k_aload_n K dX7_readGround_24 3 rfl ?_
    refine k_iload_n K dX7_readGround_25 1 rfl ?_
    refine k_iload_n K dX7_readGround_26 0 rfl ?_
    obtain ⟨⟨r7, s8⟩, e9, h⟩ := bd_some h
    dsimp only at h
    refine k_callVv K 18 2 (Nat.le_of_ble_eq_true rfl) ((mS_18 cI cZ cC cG cB ad) _) rfl (ctX2_stretch (by decide) e9) (cwV 2 K.ts gX7_readGround_X2_stretch rfl rfl rfl hVX2_stretch ⟨Nat.le_of_ble_eq_true rfl, Nat.le_of_ble_eq_true rfl⟩) rfl rfl (Nat.le_of_ble_eq_true rfl) dX7_readGround_27 ?_
    refine k_iconst (x := 0) K dX7_readGround_30 (by decide) ?_
    refine k_istore (lv' := [(4, _), (3, _), (2, _), (0, _), (1, _)]) K dX7_readGround_31 (by rw [hn]; decide) rfl ?_
    exact k_sub [3, 4, 0] rfl (wX7_readGround_33 K hn hR FU _ _ h)
  · have h := if_f q h
    exact ret_v hR h dX7_readGround_23
-- X7_readKerb (3, 65)
theorem iX7_readKerb_X2 : ∀ w ∈ wsX20, w ∈ wsX7_readKerb := fun _ h => List.mem_cons_of_mem _ (List.mem_append_left _ (List.mem_append_right _ h))
theorem iX7_readKerb_X7 : ∀ w ∈ wsX70, w ∈ wsX7_readKerb := fun _ h => List.mem_cons_of_mem _ (List.mem_append_right _ h)
theorem fX7_readKerb_28 : Cond.fieldLink RX7 28 "SlopeCoins$Reader" "fault" "I" ∈ wsX7_readKerb := by decide +kernel
theorem fX7_readKerb_86 : Cond.fieldLink RX7 86 "SlopeCoins$City" "wide" "I" ∈ wsX7_readKerb := by decide +kernel
theorem fX7_readKerb_89 : Cond.fieldLink RX7 89 "SlopeCoins$City" "high" "I" ∈ wsX7_readKerb := by decide +kernel
set_option maxRecDepth 100000 in
set_option maxHeartbeats 4000000 in
theorem ctX7_readKerb {l : Launch} {D : va_G} {cI cZ cC cG cB : ClassId} {ad : Nat → Nat} {σ : St} {res : (Int32 × St)} (h : mX7_readKerb σ = some res) : Cv l yX7_readKerb wsX7_readKerb 3 65 D vwCl (tysS cI cZ cC cG cB) nwS (mkS cI cZ cC cG cB ad) ad 75 [.ref (ad 68), .ref (ad 18)] σ res := by
  refine c_void (cc := cX7_readKerb) (maxL := 5) (by decide) rfl (Nat.le_of_ble_eq_true rfl) fun a b hn K hR => ?_
  unfold mX7_readKerb at h
  have K : KS (GS l 3 65 D cI cZ cC cG cB ad a b (w_A ad 75)) cX7_readKerb RX7 wsX7_readKerb none := K
  have hn : x_n (GS l 3 65 D cI cZ cC cG cB ad a b (w_A ad 75)) = 5 := hn
  refine k_sub [0, 1] rfl ?_
  refine k_aload_n K dX7_readKerb_0 0 rfl ?_
  refine k_iconst (x := 0) K dX7_readKerb_1 (by decide) ?_
  refine k_aload_n K dX7_readKerb_2 1 rfl ?_
  refine k_get K 18 2 0 iX7_readKerb_X2 (Nat.le_of_ble_eq_true rfl) ((mS_18 cI cZ cC cG cB ad) _) rfl (by decide) fX7_readKerb_86 rfl dX7_readKerb_3 ?_
  refine k_iconst (x := 1) K dX7_readKerb_6 (by decide) ?_
  refine k_isub K dX7_readKerb_7 ?_
  obtain ⟨⟨r1, s2⟩, e3, h⟩ := bd_some h
  dsimp only at h
  refine k_callVi K 68 7 (Nat.le_of_ble_eq_true rfl) ((mS_68 cI cZ cC cG cB ad) _) rfl (ctX7_readNumber e3) (cwV 2 K.ts gX7_readKerb_X7_readNumber rfl rfl rfl hVX7_readNumber ⟨Nat.le_of_ble_eq_true rfl, Nat.le_of_ble_eq_true rfl⟩) rfl rfl (Nat.le_of_ble_eq_true rfl) dX7_readKerb_8 ?_
  refine k_istore_n (lv' := [(2, _), (0, _), (1, _)]) K dX7_readKerb_11 (by rw [hn]; decide) rfl ?_
  refine k_aload_n K dX7_readKerb_12 1 rfl ?_
  refine k_iconst (x := 0) K dX7_readKerb_13 (by decide) ?_
  refine k_aload_n K dX7_readKerb_14 2 rfl ?_
  refine k_get K 18 2 1 iX7_readKerb_X2 (Nat.le_of_ble_eq_true rfl) ((mS_18 cI cZ cC cG cB ad) _) rfl (by decide) fX7_readKerb_89 rfl dX7_readKerb_15 ?_
  refine k_iconst (x := 1) K dX7_readKerb_18 (by decide) ?_
  refine k_isub K dX7_readKerb_19 ?_
  obtain ⟨⟨r4, s5⟩, e6, h⟩ := bd_some h
  dsimp only at h
  refine k_callVi K 68 7 (Nat.le_of_ble_eq_true rfl) ((mS_68 cI cZ cC cG cB ad) _) rfl (ctX7_readNumber e6) (cwV 2 K.ts gX7_readKerb_X7_readNumber rfl rfl rfl hVX7_readNumber ⟨Nat.le_of_ble_eq_true rfl, Nat.le_of_ble_eq_true rfl⟩) rfl rfl (Nat.le_of_ble_eq_true rfl) dX7_readKerb_20 ?_
  refine k_istore_n (lv' := [(3, _), (2, _), (0, _), (1, _)]) K dX7_readKerb_23 (by rw [hn]; decide) rfl ?_
  refine k_aload_n K dX7_readKerb_24 2 rfl ?_
  refine k_iconst (x := 0) K dX7_readKerb_25 (by decide) ?_
  refine k_iconst (x := 3) K dX7_readKerb_26 (by decide) ?_
  obtain ⟨⟨r7, s8⟩, e9, h⟩ := bd_some h
  dsimp only at h
  refine k_callVi K 68 7 (Nat.le_of_ble_eq_true rfl) ((mS_68 cI cZ cC cG cB ad) _) rfl (ctX7_readNumber e9) (cwV 2 K.ts gX7_readKerb_X7_readNumber rfl rfl rfl hVX7_readNumber ⟨Nat.le_of_ble_eq_true rfl, Nat.le_of_ble_eq_true rfl⟩) rfl rfl (Nat.le_of_ble_eq_true rfl) dX7_readKerb_27 ?_
  refine k_istore (lv' := [(4, _), (3, _), (2, _), (0, _), (1, _)]) K dX7_readKerb_30 (by rw [hn]; decide) rfl ?_
  refine k_aload_n K dX7_readKerb_32 3 rfl ?_
  refine k_get K 68 7 6 iX7_readKerb_X7 (Nat.le_of_ble_eq_true rfl) ((mS_68 cI cZ cC cG cB ad) _) rfl (by decide) fX7_readKerb_28 rfl dX7_readKerb_33 ?_
  refine k_iconst (x := (-1)) K dX7_readKerb_36 (by decide) ?_
  refine k_icmp_ne (tgt := 52) K dX7_readKerb_37 (by decide) (fun q => ?_) (fun q => ?_)
  · have h := if_f q h
    exact ret_v hR h dX7_readKerb_52
  · have h := if_t q h
    refine k_aload_n K dX7_readKerb_40 4 rfl ?_
    refine k_aload_n K dX7_readKerb_41 4 rfl ?_
    refine k_iload_n K dX7_readKerb_42 2 rfl ?_
    refine k_iload_n K dX7_readKerb_43 1 rfl ?_
    obtain ⟨⟨r10, s11⟩, e12, h⟩ := bd_some h
    dsimp only at h
    refine k_callVi K 18 2 (Nat.le_of_ble_eq_true rfl) ((mS_18 cI cZ cC cG cB ad) _) rfl (ctX2_cellAt (by decide) e12) (cwV 2 K.ts gX7_readKerb_X2_cellAt rfl rfl rfl hVX2_cellAt ⟨Nat.le_of_ble_eq_true rfl, Nat.le_of_ble_eq_true rfl⟩) rfl rfl (Nat.le_of_ble_eq_true rfl) dX7_readKerb_44 ?_
    refine k_iload K dX7_readKerb_47 0 rfl ?_
    obtain ⟨⟨r13, s14⟩, e15, h⟩ := bd_some h
    dsimp only at h
    refine k_callVv K 18 2 (Nat.le_of_ble_eq_true rfl) ((mS_18 cI cZ cC cG cB ad) _) rfl (ctX2_addKerb (by decide) e15) (cwV 2 K.ts gX7_readKerb_X2_addKerb rfl rfl rfl hVX2_addKerb ⟨Nat.le_of_ble_eq_true rfl, Nat.le_of_ble_eq_true rfl⟩) rfl rfl (Nat.le_of_ble_eq_true rfl) dX7_readKerb_49 ?_
    exact ret_v hR h dX7_readKerb_52
-- X7_readGrating (3, 65)
theorem iX7_readGrating_X2 : ∀ w ∈ wsX20, w ∈ wsX7_readGrating := fun _ h => List.mem_cons_of_mem _ (List.mem_append_left _ (List.mem_append_right _ h))
theorem iX7_readGrating_X7 : ∀ w ∈ wsX70, w ∈ wsX7_readGrating := fun _ h => List.mem_cons_of_mem _ (List.mem_append_right _ h)
theorem fX7_readGrating_28 : Cond.fieldLink RX7 28 "SlopeCoins$Reader" "fault" "I" ∈ wsX7_readGrating := by decide +kernel
theorem fX7_readGrating_86 : Cond.fieldLink RX7 86 "SlopeCoins$City" "wide" "I" ∈ wsX7_readGrating := by decide +kernel
theorem fX7_readGrating_89 : Cond.fieldLink RX7 89 "SlopeCoins$City" "high" "I" ∈ wsX7_readGrating := by decide +kernel
theorem fX7_readGrating_98 : Cond.fieldLink RX7 98 "SlopeCoins$City" "gratings" "I" ∈ wsX7_readGrating := by decide +kernel
theorem fX7_readGrating_101 : Cond.fieldLink RX7 101 "SlopeCoins$City" "grating" "[I" ∈ wsX7_readGrating := by decide +kernel
set_option maxRecDepth 100000 in
set_option maxHeartbeats 4000000 in
theorem ctX7_readGrating {l : Launch} {D : va_G} {cI cZ cC cG cB : ClassId} {ad : Nat → Nat} {σ : St} {res : (Int32 × St)} (h : mX7_readGrating σ = some res) : Cv l yX7_readGrating wsX7_readGrating 3 65 D vwCl (tysS cI cZ cC cG cB) nwS (mkS cI cZ cC cG cB ad) ad 75 [.ref (ad 68), .ref (ad 18)] σ res := by
  refine c_void (cc := cX7_readGrating) (maxL := 6) (by decide) rfl (Nat.le_of_ble_eq_true rfl) fun a b hn K hR => ?_
  unfold mX7_readGrating at h
  have K : KS (GS l 3 65 D cI cZ cC cG cB ad a b (w_A ad 75)) cX7_readGrating RX7 wsX7_readGrating none := K
  have hn : x_n (GS l 3 65 D cI cZ cC cG cB ad a b (w_A ad 75)) = 6 := hn
  refine k_sub [0, 1] rfl ?_
  refine k_aload_n K dX7_readGrating_0 1 rfl ?_
  refine k_get K 18 2 3 iX7_readGrating_X2 (Nat.le_of_ble_eq_true rfl) ((mS_18 cI cZ cC cG cB ad) _) rfl (by decide) fX7_readGrating_98 rfl dX7_readGrating_1 ?_
  refine k_iconst (x := 4) K dX7_readGrating_4 (by decide) ?_
  refine k_icmp_lt (tgt := 13) K dX7_readGrating_5 (by decide) (fun q => ?_) (fun q => ?_)
  · have h := if_t q h
    refine k_aload_n K dX7_readGrating_13 0 rfl ?_
    refine k_iconst (x := 0) K dX7_readGrating_14 (by decide) ?_
    refine k_aload_n K dX7_readGrating_15 1 rfl ?_
    refine k_get K 18 2 0 iX7_readGrating_X2 (Nat.le_of_ble_eq_true rfl) ((mS_18 cI cZ cC cG cB ad) _) rfl (by decide) fX7_readGrating_86 rfl dX7_readGrating_16 ?_
    refine k_iconst (x := 1) K dX7_readGrating_19 (by decide) ?_
    refine k_isub K dX7_readGrating_20 ?_
    obtain ⟨⟨r1, s2⟩, e3, h⟩ := bd_some h
    dsimp only at h
    refine k_callVi K 68 7 (Nat.le_of_ble_eq_true rfl) ((mS_68 cI cZ cC cG cB ad) _) rfl (ctX7_readNumber e3) (cwV 2 K.ts gX7_readGrating_X7_readNumber rfl rfl rfl hVX7_readNumber ⟨Nat.le_of_ble_eq_true rfl, Nat.le_of_ble_eq_true rfl⟩) rfl rfl (Nat.le_of_ble_eq_true rfl) dX7_readGrating_21 ?_
    refine k_istore_n (lv' := [(2, _), (0, _), (1, _)]) K dX7_readGrating_24 (by rw [hn]; decide) rfl ?_
    refine k_aload_n K dX7_readGrating_25 1 rfl ?_
    refine k_iconst (x := 0) K dX7_readGrating_26 (by decide) ?_
    refine k_aload_n K dX7_readGrating_27 2 rfl ?_
    refine k_get K 18 2 1 iX7_readGrating_X2 (Nat.le_of_ble_eq_true rfl) ((mS_18 cI cZ cC cG cB ad) _) rfl (by decide) fX7_readGrating_89 rfl dX7_readGrating_28 ?_
    refine k_iconst (x := 1) K dX7_readGrating_31 (by decide) ?_
    refine k_isub K dX7_readGrating_32 ?_
    obtain ⟨⟨r4, s5⟩, e6, h⟩ := bd_some h
    dsimp only at h
    refine k_callVi K 68 7 (Nat.le_of_ble_eq_true rfl) ((mS_68 cI cZ cC cG cB ad) _) rfl (ctX7_readNumber e6) (cwV 2 K.ts gX7_readGrating_X7_readNumber rfl rfl rfl hVX7_readNumber ⟨Nat.le_of_ble_eq_true rfl, Nat.le_of_ble_eq_true rfl⟩) rfl rfl (Nat.le_of_ble_eq_true rfl) dX7_readGrating_33 ?_
    refine k_istore_n (lv' := [(3, _), (2, _), (0, _), (1, _)]) K dX7_readGrating_36 (by rw [hn]; decide) rfl ?_
    refine k_aload_n K dX7_readGrating_37 2 rfl ?_
    refine k_get K 68 7 6 iX7_readGrating_X7 (Nat.le_of_ble_eq_true rfl) ((mS_68 cI cZ cC cG cB ad) _) rfl (by decide) fX7_readGrating_28 rfl dX7_readGrating_38 ?_
    refine k_iconst (x := (-1)) K dX7_readGrating_41 (by decide) ?_
    refine k_icmp_eq (tgt := 46) K dX7_readGrating_42 (by decide) (fun q => ?_) (fun q => ?_)
    · have h := if_t q h
      refine k_aload_n K dX7_readGrating_46 3 rfl ?_
      refine k_iload_n K dX7_readGrating_47 1 rfl ?_
      refine k_iload_n K dX7_readGrating_48 0 rfl ?_
      obtain ⟨⟨r7, s8⟩, e9, h⟩ := bd_some h
      dsimp only at h
      refine k_callVi K 18 2 (Nat.le_of_ble_eq_true rfl) ((mS_18 cI cZ cC cG cB ad) _) rfl (ctX2_cellAt (by decide) e9) (cwV 2 K.ts gX7_readGrating_X2_cellAt rfl rfl rfl hVX2_cellAt ⟨Nat.le_of_ble_eq_true rfl, Nat.le_of_ble_eq_true rfl⟩) rfl rfl (Nat.le_of_ble_eq_true rfl) dX7_readGrating_49 ?_
      refine k_istore (lv' := [(4, _), (3, _), (2, _), (0, _), (1, _)]) K dX7_readGrating_52 (by rw [hn]; decide) rfl ?_
      refine k_aload_n K dX7_readGrating_54 4 rfl ?_
      refine k_get K 18 2 7 iX7_readGrating_X2 (Nat.le_of_ble_eq_true rfl) ((mS_18 cI cZ cC cG cB ad) _) rfl (by decide) fX7_readGrating_101 rfl dX7_readGrating_55 ?_
      refine k_iload K dX7_readGrating_58 0 rfl ?_
      obtain ⟨g10, h⟩ := gd_some h
      refine k_ild K 21 0 (Nat.le_of_ble_eq_true rfl) ((mS_21 cI cZ cC cG cB ad) _) rfl g10 dX7_readGrating_60 ?_
      refine k_if_le (tgt := 69) K dX7_readGrating_61 (by decide) (fun q => ?_) (fun q => ?_)
      · have h := if_f q h
        refine k_aload_n K dX7_readGrating_69 3 rfl ?_
        refine k_iconst (x := 1) K dX7_readGrating_70 (by decide) ?_
        refine k_bipush (x := 9) K dX7_readGrating_71 (by decide) ?_
        obtain ⟨⟨r11, s12⟩, e13, h⟩ := bd_some h
        dsimp only at h
        refine k_callVi K 68 7 (Nat.le_of_ble_eq_true rfl) ((mS_68 cI cZ cC cG cB ad) _) rfl (ctX7_readNumber e13) (cwV 2 K.ts gX7_readGrating_X7_readNumber rfl rfl rfl hVX7_readNumber ⟨Nat.le_of_ble_eq_true rfl, Nat.le_of_ble_eq_true rfl⟩) rfl rfl (Nat.le_of_ble_eq_true rfl) dX7_readGrating_73 ?_
        refine k_istore (lv' := [(5, _), (4, _), (3, _), (2, _), (0, _), (1, _)]) K dX7_readGrating_76 (by rw [hn]; decide) rfl ?_
        refine k_aload_n K dX7_readGrating_78 4 rfl ?_
        refine k_get K 68 7 6 iX7_readGrating_X7 (Nat.le_of_ble_eq_true rfl) ((mS_68 cI cZ cC cG cB ad) _) rfl (by decide) fX7_readGrating_28 rfl dX7_readGrating_79 ?_
        refine k_iconst (x := (-1)) K dX7_readGrating_82 (by decide) ?_
        refine k_icmp_ne (tgt := 105) K dX7_readGrating_83 (by decide) (fun q => ?_) (fun q => ?_)
        · have h := if_f q h
          exact ret_v hR h dX7_readGrating_105
        · have h := if_t q h
          refine k_aload_n K dX7_readGrating_86 5 rfl ?_
          refine k_get K 18 2 7 iX7_readGrating_X2 (Nat.le_of_ble_eq_true rfl) ((mS_18 cI cZ cC cG cB ad) _) rfl (by decide) fX7_readGrating_101 rfl dX7_readGrating_87 ?_
          refine k_iload K dX7_readGrating_90 1 rfl ?_
          refine k_iload K dX7_readGrating_92 0 rfl ?_
          obtain ⟨g14, h⟩ := gd_some h
          have h := lt_some h
          refine k_ist K 21 0 (Nat.le_of_ble_eq_true rfl) (mS_21 cI cZ cC cG cB ad) rfl g14 dX7_readGrating_94 ?_
          refine k_aload_n K dX7_readGrating_95 5 rfl ?_
          refine k_dup K dX7_readGrating_96 rfl ?_
          refine k_get K 18 2 3 iX7_readGrating_X2 (Nat.le_of_ble_eq_true rfl) ((mS_18 cI cZ cC cG cB ad) _) rfl (by decide) fX7_readGrating_98 rfl dX7_readGrating_97 ?_
          refine k_iconst (x := 1) K dX7_readGrating_100 (by decide) ?_
          refine k_iadd K dX7_readGrating_101 ?_
          have h := lt_some h
          refine k_putI K 18 2 3 tyX2 tyX2_ok nmX2 iX7_readGrating_X2 (Nat.le_of_ble_eq_true rfl) ((mS_18 cI cZ cC cG cB ad) _) rfl (by decide) fX7_readGrating_98 rfl (by decide +kernel) (Nat.le_of_ble_eq_true rfl) (pS_18_3 cI cZ cC cG cB ad _ _) dX7_readGrating_102 ?_
          exact ret_v hR h dX7_readGrating_105
      · have h := if_t q h
        refine k_aload_n K dX7_readGrating_64 3 rfl ?_
        obtain ⟨⟨r17, s18⟩, e19, h⟩ := bd_some h
        dsimp only at h
        refine k_callVv K 68 7 (Nat.le_of_ble_eq_true rfl) ((mS_68 cI cZ cC cG cB ad) _) rfl (ctX7_fail e19) (cwV 0 K.ts gX7_readGrating_X7_fail rfl rfl rfl hVX7_fail ⟨Nat.le_of_ble_eq_true rfl, Nat.le_of_ble_eq_true rfl⟩) rfl rfl (Nat.le_of_ble_eq_true rfl) dX7_readGrating_65 ?_
        exact ret_v hR h dX7_readGrating_68
    · have h := if_f q h
      exact ret_v hR h dX7_readGrating_45
  · have h := if_f q h
    refine k_aload_n K dX7_readGrating_8 0 rfl ?_
    obtain ⟨⟨r20, s21⟩, e22, h⟩ := bd_some h
    dsimp only at h
    refine k_callVv K 68 7 (Nat.le_of_ble_eq_true rfl) ((mS_68 cI cZ cC cG cB ad) _) rfl (ctX7_fail e22) (cwV 0 K.ts gX7_readGrating_X7_fail rfl rfl rfl hVX7_fail ⟨Nat.le_of_ble_eq_true rfl, Nat.le_of_ble_eq_true rfl⟩) rfl rfl (Nat.le_of_ble_eq_true rfl) dX7_readGrating_9 ?_
    exact ret_v hR h dX7_readGrating_12
-- X7_readItem (4, 90)
theorem iX7_readItem_X7 : ∀ w ∈ wsX70, w ∈ wsX7_readItem := fun _ h => List.mem_cons_of_mem _ (List.mem_append_left _ (List.mem_append_right _ h))
theorem fX7_readItem_39 : Cond.fieldLink RX7 39 "SlopeCoins$Reader" "token" "I" ∈ wsX7_readItem := by decide +kernel
theorem fX7_readItem_46 : Cond.fieldLink RX7 46 "SlopeCoins$Reader" "value" "I" ∈ wsX7_readItem := by decide +kernel
set_option maxRecDepth 100000 in
set_option maxHeartbeats 4000000 in
theorem wX7_readItem_23 {l : Launch} {D : va_G} {cI cZ cC cG cB : ClassId} {ad : Nat → Nat} {a : Program × Env × State × MethodId} {b : Array Value × List Frame × Method × Code × (State → Prop) × Nat} {A : Nat → Prop} (K : KS (GS l 4 90 D cI cZ cC cG cB ad a b A) cX7_readItem RX7 wsX7_readItem none) (hn : x_n (GS l 4 90 D cI cZ cC cG cB ad a b A) = 3) {res : (Int32 × St)} (hR : HRv (GS l 4 90 D cI cZ cC cG cB ad a b A) cX7_readItem res) : ∀ (t0 : Int32), ∀ (t1 : Int32), ∀ (σ : St), mX7_readItem_23 t0 t1 σ = some res → Wk (GS l 4 90 D cI cZ cC cG cB ad a b A) 23 [(0, .ref (ad 68)), (1, .ref (ad 18))] [.int t0, .int t1] σ := by
  intro t0 t1 σ h
  unfold mX7_readItem_23 at h
  refine k_icmp_eq (tgt := 31) K dX7_readItem_23 (by decide) (fun q => ?_) (fun q => ?_)
  · have h := if_t q h
    refine k_aload_n K dX7_readItem_31 0 rfl ?_
    refine k_get K 68 7 5 iX7_readItem_X7 (Nat.le_of_ble_eq_true rfl) ((mS_68 cI cZ cC cG cB ad) _) rfl (by decide) fX7_readItem_46 rfl dX7_readItem_32 ?_
    refine k_case (y := 99) (fun q0 => ?_) (fun q0 => ?_)
    · have h := if_t q0 h
      refine k_lookup (off := 65) (tgt := 100) K dX7_readItem_35 (by decide) (by rw [q0]; decide) (by decide) ?_
      refine k_aload_n K dX7_readItem_100 0 rfl ?_
      refine k_aload_n K dX7_readItem_101 1 rfl ?_
      obtain ⟨⟨r4, s5⟩, e6, h⟩ := bd_some h
      dsimp only at h
      refine k_callVv K 68 7 (Nat.le_of_ble_eq_true rfl) ((mS_68 cI cZ cC cG cB ad) _) rfl (ctX7_readKind e6) (cwV 1 K.ts gX7_readItem_X7_readKind rfl rfl rfl hVX7_readKind ⟨Nat.le_of_ble_eq_true rfl, Nat.le_of_ble_eq_true rfl⟩) rfl rfl (Nat.le_of_ble_eq_true rfl) dX7_readItem_102 ?_
      refine k_goto (tgt := 112) K dX7_readItem_105 (by decide) ?_
      refine k_aload_n K dX7_readItem_112 0 rfl ?_
      obtain ⟨⟨r7, s8⟩, e9, h⟩ := bd_some h
      dsimp only at h
      refine k_callVv K 68 7 (Nat.le_of_ble_eq_true rfl) ((mS_68 cI cZ cC cG cB ad) _) rfl (ctX7_readClosing e9) (cwV 0 K.ts gX7_readItem_X7_readClosing rfl rfl rfl hVX7_readClosing ⟨Nat.le_of_ble_eq_true rfl, Nat.le_of_ble_eq_true rfl⟩) rfl rfl (Nat.le_of_ble_eq_true rfl) dX7_readItem_113 ?_
      exact ret_v hR h dX7_readItem_116
    · have h := if_f q0 h
      refine k_case (y := 103) (fun q1 => ?_) (fun q1 => ?_)
      · have h := if_t q1 h
        refine k_lookup (off := 41) (tgt := 76) K dX7_readItem_35 (by decide) (by rw [q1]; decide) (by decide) ?_
        refine k_aload_n K dX7_readItem_76 0 rfl ?_
        refine k_aload_n K dX7_readItem_77 1 rfl ?_
        obtain ⟨⟨r10, s11⟩, e12, h⟩ := bd_some h
        dsimp only at h
        refine k_callVv K 68 7 (Nat.le_of_ble_eq_true rfl) ((mS_68 cI cZ cC cG cB ad) _) rfl (ctX7_readGround e12) (cwV 1 K.ts gX7_readItem_X7_readGround rfl rfl rfl hVX7_readGround ⟨Nat.le_of_ble_eq_true rfl, Nat.le_of_ble_eq_true rfl⟩) rfl rfl (Nat.le_of_ble_eq_true rfl) dX7_readItem_78 ?_
        refine k_goto (tgt := 112) K dX7_readItem_81 (by decide) ?_
        refine k_aload_n K dX7_readItem_112 0 rfl ?_
        obtain ⟨⟨r13, s14⟩, e15, h⟩ := bd_some h
        dsimp only at h
        refine k_callVv K 68 7 (Nat.le_of_ble_eq_true rfl) ((mS_68 cI cZ cC cG cB ad) _) rfl (ctX7_readClosing e15) (cwV 0 K.ts gX7_readItem_X7_readClosing rfl rfl rfl hVX7_readClosing ⟨Nat.le_of_ble_eq_true rfl, Nat.le_of_ble_eq_true rfl⟩) rfl rfl (Nat.le_of_ble_eq_true rfl) dX7_readItem_113 ?_
        exact ret_v hR h dX7_readItem_116
      · have h := if_f q1 h
        refine k_case (y := 107) (fun q2 => ?_) (fun q2 => ?_)
        · have h := if_t q2 h
          refine k_lookup (off := 49) (tgt := 84) K dX7_readItem_35 (by decide) (by rw [q2]; decide) (by decide) ?_
          refine k_aload_n K dX7_readItem_84 0 rfl ?_
          refine k_aload_n K dX7_readItem_85 1 rfl ?_
          obtain ⟨⟨r16, s17⟩, e18, h⟩ := bd_some h
          dsimp only at h
          refine k_callVv K 68 7 (Nat.le_of_ble_eq_true rfl) ((mS_68 cI cZ cC cG cB ad) _) rfl (ctX7_readKerb e18) (cwV 1 K.ts gX7_readItem_X7_readKerb rfl rfl rfl hVX7_readKerb ⟨Nat.le_of_ble_eq_true rfl, Nat.le_of_ble_eq_true rfl⟩) rfl rfl (Nat.le_of_ble_eq_true rfl) dX7_readItem_86 ?_
          refine k_goto (tgt := 112) K dX7_readItem_89 (by decide) ?_
          refine k_aload_n K dX7_readItem_112 0 rfl ?_
          obtain ⟨⟨r19, s20⟩, e21, h⟩ := bd_some h
          dsimp only at h
          refine k_callVv K 68 7 (Nat.le_of_ble_eq_true rfl) ((mS_68 cI cZ cC cG cB ad) _) rfl (ctX7_readClosing e21) (cwV 0 K.ts gX7_readItem_X7_readClosing rfl rfl rfl hVX7_readClosing ⟨Nat.le_of_ble_eq_true rfl, Nat.le_of_ble_eq_true rfl⟩) rfl rfl (Nat.le_of_ble_eq_true rfl) dX7_readItem_113 ?_
          exact ret_v hR h dX7_readItem_116
        · have h := if_f q2 h
          refine k_case (y := 111) (fun q3 => ?_) (fun q3 => ?_)
          · have h := if_t q3 h
            refine k_lookup (off := 57) (tgt := 92) K dX7_readItem_35 (by decide) (by rw [q3]; decide) (by decide) ?_
            refine k_aload_n K dX7_readItem_92 0 rfl ?_
            refine k_aload_n K dX7_readItem_93 1 rfl ?_
            obtain ⟨⟨r22, s23⟩, e24, h⟩ := bd_some h
            dsimp only at h
            refine k_callVv K 68 7 (Nat.le_of_ble_eq_true rfl) ((mS_68 cI cZ cC cG cB ad) _) rfl (ctX7_readGrating e24) (cwV 1 K.ts gX7_readItem_X7_readGrating rfl rfl rfl hVX7_readGrating ⟨Nat.le_of_ble_eq_true rfl, Nat.le_of_ble_eq_true rfl⟩) rfl rfl (Nat.le_of_ble_eq_true rfl) dX7_readItem_94 ?_
            refine k_goto (tgt := 112) K dX7_readItem_97 (by decide) ?_
            refine k_aload_n K dX7_readItem_112 0 rfl ?_
            obtain ⟨⟨r25, s26⟩, e27, h⟩ := bd_some h
            dsimp only at h
            refine k_callVv K 68 7 (Nat.le_of_ble_eq_true rfl) ((mS_68 cI cZ cC cG cB ad) _) rfl (ctX7_readClosing e27) (cwV 0 K.ts gX7_readItem_X7_readClosing rfl rfl rfl hVX7_readClosing ⟨Nat.le_of_ble_eq_true rfl, Nat.le_of_ble_eq_true rfl⟩) rfl rfl (Nat.le_of_ble_eq_true rfl) dX7_readItem_113 ?_
            exact ret_v hR h dX7_readItem_116
          · have h := if_f q3 h
            refine k_lookup (off := 73) (tgt := 108) K dX7_readItem_35 (by decide) (lk_out4 q0 q1 q2 q3) (by decide) ?_
            refine k_aload_n K dX7_readItem_108 0 rfl ?_
            obtain ⟨⟨r28, s29⟩, e30, h⟩ := bd_some h
            dsimp only at h
            refine k_callVv K 68 7 (Nat.le_of_ble_eq_true rfl) ((mS_68 cI cZ cC cG cB ad) _) rfl (ctX7_fail e30) (cwV 0 K.ts gX7_readItem_X7_fail rfl rfl rfl hVX7_fail ⟨Nat.le_of_ble_eq_true rfl, Nat.le_of_ble_eq_true rfl⟩) rfl rfl (Nat.le_of_ble_eq_true rfl) dX7_readItem_109 ?_
            refine k_aload_n K dX7_readItem_112 0 rfl ?_
            obtain ⟨⟨r31, s32⟩, e33, h⟩ := bd_some h
            dsimp only at h
            refine k_callVv K 68 7 (Nat.le_of_ble_eq_true rfl) ((mS_68 cI cZ cC cG cB ad) _) rfl (ctX7_readClosing e33) (cwV 0 K.ts gX7_readItem_X7_readClosing rfl rfl rfl hVX7_readClosing ⟨Nat.le_of_ble_eq_true rfl, Nat.le_of_ble_eq_true rfl⟩) rfl rfl (Nat.le_of_ble_eq_true rfl) dX7_readItem_113 ?_
            exact ret_v hR h dX7_readItem_116
  · have h := if_f q h
    refine k_aload_n K dX7_readItem_26 0 rfl ?_
    obtain ⟨⟨r34, s35⟩, e36, h⟩ := bd_some h
    dsimp only at h
    refine k_callVv K 68 7 (Nat.le_of_ble_eq_true rfl) ((mS_68 cI cZ cC cG cB ad) _) rfl (ctX7_fail e36) (cwV 0 K.ts gX7_readItem_X7_fail rfl rfl rfl hVX7_fail ⟨Nat.le_of_ble_eq_true rfl, Nat.le_of_ble_eq_true rfl⟩) rfl rfl (Nat.le_of_ble_eq_true rfl) dX7_readItem_27 ?_
    exact ret_v hR h dX7_readItem_30
set_option maxRecDepth 100000 in
set_option maxHeartbeats 4000000 in
theorem ctX7_readItem {l : Launch} {D : va_G} {cI cZ cC cG cB : ClassId} {ad : Nat → Nat} {v2 : Int32} {σ : St} {res : (Int32 × St)} (h : mX7_readItem v2 σ = some res) : Cv l yX7_readItem wsX7_readItem 4 90 D vwCl (tysS cI cZ cC cG cB) nwS (mkS cI cZ cC cG cB ad) ad 75 [.ref (ad 68), .ref (ad 18), .int v2] σ res := by
  refine c_void (cc := cX7_readItem) (maxL := 3) (by decide) rfl (Nat.le_of_ble_eq_true rfl) fun a b hn K hR => ?_
  unfold mX7_readItem at h
  have K : KS (GS l 4 90 D cI cZ cC cG cB ad a b (w_A ad 75)) cX7_readItem RX7 wsX7_readItem none := K
  have hn : x_n (GS l 4 90 D cI cZ cC cG cB ad a b (w_A ad 75)) = 3 := hn
  refine k_sub [0, 1, 2] rfl ?_
  refine k_aload_n K dX7_readItem_0 0 rfl ?_
  refine k_get K 68 7 4 iX7_readItem_X7 (Nat.le_of_ble_eq_true rfl) ((mS_68 cI cZ cC cG cB ad) _) rfl (by decide) fX7_readItem_39 rfl dX7_readItem_1 ?_
  refine k_iconst (x := 1) K dX7_readItem_4 (by decide) ?_
  refine k_icmp_ne (tgt := 26) K dX7_readItem_5 (by decide) (fun q => ?_) (fun q => ?_)
  · have h := if_f q h
    refine k_aload_n K dX7_readItem_26 0 rfl ?_
    obtain ⟨⟨r1, s2⟩, e3, h⟩ := bd_some h
    dsimp only at h
    refine k_callVv K 68 7 (Nat.le_of_ble_eq_true rfl) ((mS_68 cI cZ cC cG cB ad) _) rfl (ctX7_fail e3) (cwV 0 K.ts gX7_readItem_X7_fail rfl rfl rfl hVX7_fail ⟨Nat.le_of_ble_eq_true rfl, Nat.le_of_ble_eq_true rfl⟩) rfl rfl (Nat.le_of_ble_eq_true rfl) dX7_readItem_27 ?_
    exact ret_v hR h dX7_readItem_30
  · have h := if_t q h
    refine k_iload_n K dX7_readItem_8 2 rfl ?_
    refine k_aload_n K dX7_readItem_9 0 rfl ?_
    refine k_get K 68 7 5 iX7_readItem_X7 (Nat.le_of_ble_eq_true rfl) ((mS_68 cI cZ cC cG cB ad) _) rfl (by decide) fX7_readItem_46 rfl dX7_readItem_10 ?_
    refine k_bipush (x := 103) K dX7_readItem_13 (by decide) ?_
    refine k_icmp_ne (tgt := 22) K dX7_readItem_15 (by decide) (fun q => ?_) (fun q => ?_)
    · have h := if_f q h
      refine k_iconst (x := 0) K dX7_readItem_22 (by decide) ?_
      exact k_sub [0, 1] rfl (wX7_readItem_23 K hn hR _ _ _ h)
    · have h := if_t q h
      refine k_iconst (x := 1) K dX7_readItem_18 (by decide) ?_
      refine k_goto (tgt := 23) K dX7_readItem_19 (by decide) ?_
      exact k_sub [0, 1] rfl (wX7_readItem_23 K hn hR _ _ _ h)
-- X7_readText (5, 112)
theorem iX7_readText_X7 : ∀ w ∈ wsX70, w ∈ wsX7_readText := fun _ h => List.mem_cons_of_mem _ (List.mem_append_left _ (List.mem_append_right _ h))
theorem fX7_readText_9 : Cond.fieldLink RX7 9 "SlopeCoins$Reader" "bytes" "[C" ∈ wsX7_readText := by decide +kernel
theorem fX7_readText_21 : Cond.fieldLink RX7 21 "SlopeCoins$Reader" "length" "I" ∈ wsX7_readText := by decide +kernel
theorem fX7_readText_25 : Cond.fieldLink RX7 25 "SlopeCoins$Reader" "place" "I" ∈ wsX7_readText := by decide +kernel
theorem fX7_readText_28 : Cond.fieldLink RX7 28 "SlopeCoins$Reader" "fault" "I" ∈ wsX7_readText := by decide +kernel
theorem fX7_readText_39 : Cond.fieldLink RX7 39 "SlopeCoins$Reader" "token" "I" ∈ wsX7_readText := by decide +kernel
set_option maxRecDepth 100000 in
set_option maxHeartbeats 4000000 in
theorem wX7_readText_80 {l : Launch} {D : va_G} {cI cZ cC cG cB : ClassId} {ad : Nat → Nat} {a : Program × Env × State × MethodId} {b : Array Value × List Frame × Method × Code × (State → Prop) × Nat} {A : Nat → Prop} (K : KS (GS l 5 112 D cI cZ cC cG cB ad a b A) cX7_readText RX7 wsX7_readText (some .int)) (hn : x_n (GS l 5 112 D cI cZ cC cG cB ad a b A) = 6) {res : (Int32 × St)} (hR : HRi (GS l 5 112 D cI cZ cC cG cB ad a b A) cX7_readText tb res) : ∀ (σ : St), mX7_readText_80 σ = some res → Wk (GS l 5 112 D cI cZ cC cG cB ad a b A) 80 [(0, .ref (ad 68))] [] σ := by
  intro σ h
  unfold mX7_readText_80 at h
  refine k_bipush (x := (-10)) K dX7_readText_80 (by decide) ?_
  refine k_aload_n K dX7_readText_82 0 rfl ?_
  refine k_get K 68 7 6 iX7_readText_X7 (Nat.le_of_ble_eq_true rfl) ((mS_68 cI cZ cC cG cB ad) _) rfl (by decide) fX7_readText_28 rfl dX7_readText_83 ?_
  refine k_isub K dX7_readText_86 ?_
  exact ret_i hR h dX7_readText_87 trivial
set_option maxRecDepth 100000 in
set_option maxHeartbeats 4000000 in
theorem wX7_readText_69 {l : Launch} {D : va_G} {cI cZ cC cG cB : ClassId} {ad : Nat → Nat} {a : Program × Env × State × MethodId} {b : Array Value × List Frame × Method × Code × (State → Prop) × Nat} {A : Nat → Prop} {k80 : St → Option (Int32 × St)} {rc : Int32 → Int32 → St → Option (Int32 × St)} (K : KS (GS l 5 112 D cI cZ cC cG cB ad a b A) cX7_readText RX7 wsX7_readText (some .int)) (hn : x_n (GS l 5 112 D cI cZ cC cG cB ad a b A) = 6) {res : (Int32 × St)} (hR : HRi (GS l 5 112 D cI cZ cC cG cB ad a b A) cX7_readText tb res) (hk80 : ∀ (σ : St), k80 σ = some res → Wk (GS l 5 112 D cI cZ cC cG cB ad a b A) 80 [(0, .ref (ad 68))] [] σ) (hrc : ∀ (v4 : Int32) (v5 : Int32) (σ : St), rc v4 v5 σ = some res → Wk (GS l 5 112 D cI cZ cC cG cB ad a b A) 35 [(0, .ref (ad 68)), (3, .ref (ad 18)), (4, .int v4), (5, .int v5)] [] σ) : ∀ (v4 : Int32), ∀ (v5 : Int32), ∀ (t0 : Int32), ∀ (σ : St), mX7_readText_69 k80 rc v4 v5 t0 σ = some res → Wk (GS l 5 112 D cI cZ cC cG cB ad a b A) 69 [(0, .ref (ad 68)), (3, .ref (ad 18)), (4, .int v4), (5, .int v5)] [.int t0, .ref (ad 18), .ref (ad 68)] σ := by
  intro v4 v5 t0 σ h
  unfold mX7_readText_69 at h
  obtain ⟨⟨r11, s12⟩, e13, h⟩ := bd_some h
  dsimp only at h
  refine k_callVv K 68 7 (Nat.le_of_ble_eq_true rfl) ((mS_68 cI cZ cC cG cB ad) _) rfl (ctX7_readItem e13) (cwV 2 K.ts gX7_readText_X7_readItem rfl rfl rfl hVX7_readItem ⟨Nat.le_of_ble_eq_true rfl, Nat.le_of_ble_eq_true rfl⟩) rfl rfl (Nat.le_of_ble_eq_true rfl) dX7_readText_69 ?_
  refine k_aload_n K dX7_readText_72 0 rfl ?_
  refine k_get K 68 7 6 iX7_readText_X7 (Nat.le_of_ble_eq_true rfl) ((mS_68 cI cZ cC cG cB ad) _) rfl (by decide) fX7_readText_28 rfl dX7_readText_73 ?_
  refine k_iconst (x := (-1)) K dX7_readText_76 (by decide) ?_
  refine k_icmp_eq (tgt := 88) K dX7_readText_77 (by decide) (fun q => ?_) (fun q => ?_)
  · have h := if_t q h
    have h := lt_some h
    refine k_iinc (lv' := [(4, _), (0, _), (3, _), (5, _)]) K dX7_readText_88 2 rfl (v := _ + 1) (by rfl) (by rw [hn]; decide) rfl ?_
    have h := lt_some h
    refine k_iinc (lv' := [(5, _), (4, _), (0, _), (3, _)]) K dX7_readText_91 3 rfl (v := _ + 1) (by rfl) (by rw [hn]; decide) rfl ?_
    refine k_goto (tgt := 35) K dX7_readText_94 (by decide) ?_
    exact k_sub [2, 3, 1, 0] rfl (hrc _ _ _ h)
  · have h := if_f q h
    exact k_sub [0] rfl (hk80  _ h)
set_option maxRecDepth 100000 in
set_option maxHeartbeats 4000000 in
theorem wX7_readText_35 {l : Launch} {D : va_G} {cI cZ cC cG cB : ClassId} {ad : Nat → Nat} {a : Program × Env × State × MethodId} {b : Array Value × List Frame × Method × Code × (State → Prop) × Nat} {A : Nat → Prop} {k80 : St → Option (Int32 × St)} (K : KS (GS l 5 112 D cI cZ cC cG cB ad a b A) cX7_readText RX7 wsX7_readText (some .int)) (hn : x_n (GS l 5 112 D cI cZ cC cG cB ad a b A) = 6) {res : (Int32 × St)} (hR : HRi (GS l 5 112 D cI cZ cC cG cB ad a b A) cX7_readText tb res) (hk80 : ∀ (σ : St), k80 σ = some res → Wk (GS l 5 112 D cI cZ cC cG cB ad a b A) 80 [(0, .ref (ad 68))] [] σ) : ∀ (n : Nat) (v4 : Int32) (v5 : Int32) (σ : St), mX7_readText_35 k80 n v4 v5 σ = some res → Wk (GS l 5 112 D cI cZ cC cG cB ad a b A) 35 [(0, .ref (ad 68)), (3, .ref (ad 18)), (4, .int v4), (5, .int v5)] [] σ := by
  intro n
  induction n with
  | zero => intro v4 v5 σ h; cases h
  | succ n ih =>
    intro v4 v5 σ h
    unfold mX7_readText_35 at h
    refine k_iload K dX7_readText_35 3 rfl ?_
    refine k_sipush (x := 200) K dX7_readText_37 (by decide) ?_
    refine k_icmp_gt (tgt := 97) K dX7_readText_40 (by decide) (fun q => ?_) (fun q => ?_)
    · have h := if_t q h
      refine k_iload K dX7_readText_97 2 rfl ?_
      exact ret_i hR h dX7_readText_99 trivial
    · have h := if_f q h
      refine k_aload_n K dX7_readText_43 0 rfl ?_
      obtain ⟨⟨r8, s9⟩, e10, h⟩ := bd_some h
      dsimp only at h
      refine k_callVv K 68 7 (Nat.le_of_ble_eq_true rfl) ((mS_68 cI cZ cC cG cB ad) _) rfl (ctX7_nextToken e10) (cwV 0 K.ts gX7_readText_X7_nextToken rfl rfl rfl hVX7_nextToken ⟨Nat.le_of_ble_eq_true rfl, Nat.le_of_ble_eq_true rfl⟩) rfl rfl (Nat.le_of_ble_eq_true rfl) dX7_readText_44 ?_
      refine k_aload_n K dX7_readText_47 0 rfl ?_
      refine k_get K 68 7 4 iX7_readText_X7 (Nat.le_of_ble_eq_true rfl) ((mS_68 cI cZ cC cG cB ad) _) rfl (by decide) fX7_readText_39 rfl dX7_readText_48 ?_
      refine k_if_ne (tgt := 57) K dX7_readText_51 (by decide) (fun q => ?_) (fun q => ?_)
      · have h := if_f q h
        refine k_aload_n K dX7_readText_57 0 rfl ?_
        refine k_aload_n K dX7_readText_58 1 rfl ?_
        refine k_iload K dX7_readText_59 2 rfl ?_
        refine k_if_ne (tgt := 68) K dX7_readText_61 (by decide) (fun q => ?_) (fun q => ?_)
        · have h := if_f q h
          refine k_iconst (x := 0) K dX7_readText_68 (by decide) ?_
          exact k_sub [0, 1, 2, 3] rfl (wX7_readText_69 K hn hR hk80 ih _ _ _ _ h)
        · have h := if_t q h
          refine k_iconst (x := 1) K dX7_readText_64 (by decide) ?_
          refine k_goto (tgt := 69) K dX7_readText_65 (by decide) ?_
          exact k_sub [0, 1, 2, 3] rfl (wX7_readText_69 K hn hR hk80 ih _ _ _ _ h)
      · have h := if_t q h
        refine k_goto (tgt := 97) K dX7_readText_54 (by decide) ?_
        refine k_iload K dX7_readText_97 2 rfl ?_
        exact ret_i hR h dX7_readText_99 trivial
set_option maxRecDepth 100000 in
set_option maxHeartbeats 4000000 in
theorem ctX7_readText {l : Launch} {D : va_G} {cI cZ cC cG cB : ClassId} {ad : Nat → Nat} {v2 : Int32} {σ : St} {res : (Int32 × St)} (h : mX7_readText v2 σ = some res) : Ci l yX7_readText wsX7_readText 5 112 D vwCl (tysS cI cZ cC cG cB) nwS (mkS cI cZ cC cG cB ad) ad 75 [.ref (ad 68), .ref (ad 1), .int v2, .ref (ad 18)] σ res := by
  refine c_int (cc := cX7_readText) (maxL := 6) (by decide) rfl (Nat.le_of_ble_eq_true rfl) fun a b hn K hR => ?_
  unfold mX7_readText at h
  have K : KS (GS l 5 112 D cI cZ cC cG cB ad a b (w_A ad 75)) cX7_readText RX7 wsX7_readText (some .int) := K
  have hn : x_n (GS l 5 112 D cI cZ cC cG cB ad a b (w_A ad 75)) = 6 := hn
  refine k_sub [0, 1, 2, 3] rfl ?_
  refine k_aload_n K dX7_readText_0 0 rfl ?_
  refine k_aload_n K dX7_readText_1 1 rfl ?_
  have h := lt_some h
  refine k_putB K 68 7 0 tyX7 tyX7_ok nmX7 iX7_readText_X7 (Nat.le_of_ble_eq_true rfl) ((mS_68 cI cZ cC cG cB ad) _) rfl (by decide) fX7_readText_9 rfl (by decide +kernel) (Nat.le_of_ble_eq_true rfl) (put_bytes cI cZ cC cG cB ad _) dX7_readText_2 ?_
  refine k_aload_n K dX7_readText_5 0 rfl ?_
  refine k_iload_n K dX7_readText_6 2 rfl ?_
  refine k_aload_n K dX7_readText_7 1 rfl ?_
  refine k_len (x := 200) K 1 2 (Nat.le_of_ble_eq_true rfl) ((mS_1 cI cZ cC cG cB ad) _) rfl rfl dX7_readText_8 ?_
  refine k_min K (by decide +kernel) (by decide +kernel) (by decide +kernel) (by decide +kernel) (Nat.le_of_ble_eq_true rfl) (Nat.le_of_ble_eq_true rfl) dX7_readText_9 ?_
  have h := lt_some h
  refine k_putI K 68 7 1 tyX7 tyX7_ok nmX7 iX7_readText_X7 (Nat.le_of_ble_eq_true rfl) ((mS_68 cI cZ cC cG cB ad) _) rfl (by decide) fX7_readText_21 rfl (by decide +kernel) (Nat.le_of_ble_eq_true rfl) (pS_68_1 cI cZ cC cG cB ad _ _) dX7_readText_12 ?_
  refine k_aload_n K dX7_readText_15 0 rfl ?_
  refine k_iconst (x := 0) K dX7_readText_16 (by decide) ?_
  have h := lt_some h
  refine k_putI K 68 7 2 tyX7 tyX7_ok nmX7 iX7_readText_X7 (Nat.le_of_ble_eq_true rfl) ((mS_68 cI cZ cC cG cB ad) _) rfl (by decide) fX7_readText_25 rfl (by decide +kernel) (Nat.le_of_ble_eq_true rfl) (pS_68_2 cI cZ cC cG cB ad _ _) dX7_readText_17 ?_
  refine k_aload_n K dX7_readText_20 0 rfl ?_
  refine k_iconst (x := (-1)) K dX7_readText_21 (by decide) ?_
  have h := lt_some h
  refine k_putI K 68 7 6 tyX7 tyX7_ok nmX7 iX7_readText_X7 (Nat.le_of_ble_eq_true rfl) ((mS_68 cI cZ cC cG cB ad) _) rfl (by decide) fX7_readText_28 rfl (by decide +kernel) (Nat.le_of_ble_eq_true rfl) (pS_68_6 cI cZ cC cG cB ad _ _) dX7_readText_22 ?_
  refine k_aload_n K dX7_readText_25 3 rfl ?_
  obtain ⟨⟨r5, s6⟩, e7, h⟩ := bd_some h
  dsimp only at h
  refine k_callVv K 18 2 (Nat.le_of_ble_eq_true rfl) ((mS_18 cI cZ cC cG cB ad) _) rfl (ctX2_wipe (by decide) e7) (cwV 0 K.ts gX7_readText_X2_wipe rfl rfl rfl hVX2_wipe ⟨Nat.le_of_ble_eq_true rfl, Nat.le_of_ble_eq_true rfl⟩) rfl rfl (Nat.le_of_ble_eq_true rfl) dX7_readText_26 ?_
  refine k_iconst (x := 0) K dX7_readText_29 (by decide) ?_
  refine k_istore (lv' := [(4, _), (0, _), (1, _), (2, _), (3, _)]) K dX7_readText_30 (by rw [hn]; decide) rfl ?_
  refine k_iconst (x := 0) K dX7_readText_32 (by decide) ?_
  refine k_istore (lv' := [(5, _), (4, _), (0, _), (1, _), (2, _), (3, _)]) K dX7_readText_33 (by rw [hn]; decide) rfl ?_
  exact k_sub [2, 5, 1, 0] rfl (wX7_readText_35 K hn hR (fun  σ h => wX7_readText_80 K hn hR  σ h) FU _ _ _ h)

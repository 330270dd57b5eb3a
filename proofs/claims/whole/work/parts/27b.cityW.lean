/-! the walk of city -/
theorem iX11_city_X11 : ∀ w ∈ wsX110, w ∈ wsX11_city := fun _ h => List.mem_cons_of_mem _ (List.mem_append_left _ (List.mem_append_left _ (List.mem_append_left _ (List.mem_append_right _ h))))
theorem fX11_city_9 : Cond.fieldLink RX11 9 "SlopeCoins" "text" "[C" ∈ wsX11_city := by decide +kernel
theorem fX11_city_16 : Cond.fieldLink RX11 16 "SlopeCoins" "city" "LSlopeCoins$City;" ∈ wsX11_city := by decide +kernel
theorem fX11_city_20 : Cond.fieldLink RX11 20 "SlopeCoins" "spare" "LSlopeCoins$City;" ∈ wsX11_city := by decide +kernel
theorem fX11_city_26 : Cond.fieldLink RX11 26 "SlopeCoins" "reader" "LSlopeCoins$Reader;" ∈ wsX11_city := by decide +kernel
theorem fX11_city_33 : Cond.fieldLink RX11 33 "SlopeCoins" "ground" "LSlopeCoins$Ground;" ∈ wsX11_city := by decide +kernel
theorem fX11_city_41 : Cond.fieldLink RX11 41 "SlopeCoins" "kept" "[Z" ∈ wsX11_city := by decide +kernel
theorem fX11_city_94 : Cond.fieldLink RX11 94 "SlopeCoins" "textLength" "I" ∈ wsX11_city := by decide +kernel
theorem fX11_city_106 : Cond.fieldLink RX11 106 "SlopeCoins" "seen" "I" ∈ wsX11_city := by decide +kernel
set_option maxRecDepth 100000 in
set_option maxHeartbeats 4000000 in
theorem wX11_city_67 {l : Launch} {D : va_G} {cI cZ cC cG cB : ClassId} {ad : Nat → Nat} {a : Program × Env × State × MethodId} {b : Array Value × List Frame × Method × Code × (State → Prop) × Nat} {A : Nat → Prop} (K : KS (GS l 6 137 D cI cZ cC cG cB ad a b A) cX11_city RX11 wsX11_city (some .int)) (hn : x_n (GS l 6 137 D cI cZ cC cG cB ad a b A) = 4) {res : (Int32 × St)} (hR : HRi (GS l 6 137 D cI cZ cC cG cB ad a b A) cX11_city tb res) : ∀ (n : Nat) (v1 : Int32) (v3 : Int32) (σ : St), mX11_city_67 n v1 v3 σ = some res → Wk (GS l 6 137 D cI cZ cC cG cB ad a b A) 67 [(0, .ref (ad 0)), (1, .int v1), (3, .int v3)] [] σ := by
  intro n
  induction n with
  | zero => intro v1 v3 σ h; cases h
  | succ n ih =>
    intro v1 v3 σ h
    unfold mX11_city_67 at h
    refine k_iload_n K dX11_city_67 2 rfl ?_
    refine k_iconst (x := 2) K dX11_city_68 (by decide) ?_
    refine k_icmp_ge (tgt := 85) K dX11_city_69 (by decide) (fun q => ?_) (fun q => ?_)
    · have h := if_f q h
      refine k_iload_n K dX11_city_85 1 rfl ?_
      exact ret_i hR h dX11_city_86 trivial
    · have h := if_t q h
      refine k_aload_n K dX11_city_72 0 rfl ?_
      refine k_get K 0 11 7 iX11_city_X11 (Nat.le_of_ble_eq_true rfl) ((mS_0 cI cZ cC cG cB ad) _) rfl (by decide) fX11_city_41 rfl dX11_city_73 ?_
      refine k_iload_n K dX11_city_76 2 rfl ?_
      refine k_iconst (x := 0) K dX11_city_77 (by decide) ?_
      obtain ⟨g6, h⟩ := gd_some h
      have h := lt_some h
      refine k_zst K 2 1 (Nat.le_of_ble_eq_true rfl) (mS_2 cI cZ cC cG cB ad) rfl g6 (by decide +kernel) dX11_city_78 ?_
      have h := lt_some h
      refine k_iinc (lv' := [(3, _), (0, _), (1, _)]) K dX11_city_79 2 rfl (v := _ + 1) (by rfl) (by rw [hn]; decide) rfl ?_
      refine k_goto (tgt := 67) K dX11_city_82 (by decide) ?_
      exact k_sub [1, 2, 0] rfl (ih _ _ _ h)
set_option maxRecDepth 100000 in
set_option maxHeartbeats 4000000 in
theorem wX11_city_44 {l : Launch} {D : va_G} {cI cZ cC cG cB : ClassId} {ad : Nat → Nat} {a : Program × Env × State × MethodId} {b : Array Value × List Frame × Method × Code × (State → Prop) × Nat} {A : Nat → Prop} (K : KS (GS l 6 137 D cI cZ cC cG cB ad a b A) cX11_city RX11 wsX11_city (some .int)) (hn : x_n (GS l 6 137 D cI cZ cC cG cB ad a b A) = 4) {res : (Int32 × St)} (hR : HRi (GS l 6 137 D cI cZ cC cG cB ad a b A) cX11_city tb res) : ∀ (v1 : Int32), ∀ (σ : St), mX11_city_44 v1 σ = some res → Wk (GS l 6 137 D cI cZ cC cG cB ad a b A) 44 [(0, .ref (ad 0)), (1, .int v1)] [] σ := by
  intro v1 σ h
  unfold mX11_city_44 at h
  refine k_aload_n K dX11_city_44 0 rfl ?_
  refine k_get K 0 11 5 iX11_city_X11 (Nat.le_of_ble_eq_true rfl) ((mS_0 cI cZ cC cG cB ad) _) rfl (by decide) fX11_city_33 rfl dX11_city_45 ?_
  refine k_aload_n K dX11_city_48 0 rfl ?_
  refine k_get K 0 11 2 iX11_city_X11 (Nat.le_of_ble_eq_true rfl) ((mS_0 cI cZ cC cG cB ad) _) rfl (by decide) fX11_city_16 rfl dX11_city_49 ?_
  obtain ⟨⟨r1, s2⟩, e3, h⟩ := bd_some h
  dsimp only at h
  refine k_callVv K 26 3 (Nat.le_of_ble_eq_true rfl) ((mS_26 cI cZ cC cG cB ad) _) rfl (ctX3_layOut e3) (cwV 1 K.ts gX11_city_X3_layOut rfl rfl rfl hVX3_layOut ⟨Nat.le_of_ble_eq_true rfl, Nat.le_of_ble_eq_true rfl⟩) rfl rfl (Nat.le_of_ble_eq_true rfl) dX11_city_52 ?_
  refine k_aload_n K dX11_city_55 0 rfl ?_
  refine k_iconst (x := 0) K dX11_city_56 (by decide) ?_
  have h := lt_some h
  refine k_putI K 0 11 1 tyX11 tyX11_ok nmX11 iX11_city_X11 (Nat.le_of_ble_eq_true rfl) ((mS_0 cI cZ cC cG cB ad) _) rfl (by decide) fX11_city_94 rfl (by decide +kernel) (Nat.le_of_ble_eq_true rfl) (pS_0_1 cI cZ cC cG cB ad _ _) dX11_city_57 ?_
  refine k_aload_n K dX11_city_60 0 rfl ?_
  refine k_iconst (x := 0) K dX11_city_61 (by decide) ?_
  have h := lt_some h
  refine k_putI K 0 11 15 tyX11 tyX11_ok nmX11 iX11_city_X11 (Nat.le_of_ble_eq_true rfl) ((mS_0 cI cZ cC cG cB ad) _) rfl (by decide) fX11_city_106 rfl (by decide +kernel) (Nat.le_of_ble_eq_true rfl) (pS_0_15 cI cZ cC cG cB ad _ _) dX11_city_62 ?_
  refine k_iconst (x := 0) K dX11_city_65 (by decide) ?_
  refine k_istore_n (lv' := [(3, _), (0, _), (1, _)]) K dX11_city_66 (by rw [hn]; decide) rfl ?_
  exact k_sub [1, 2, 0] rfl (wX11_city_67 K hn hR FU _ _ _ h)
theorem sw_big {n : Nat} (h : 26 ≤ n) : sw n = n := by
  unfold sw
  rw [if_neg (by omega), if_neg (by omega)]
theorem sw_lt {n : Nat} (h : n < 75) : sw n < 75 := by
  unfold sw
  split
  · omega
  · split <;> omega
theorem sw_inj {m n : Nat} (h : sw m = sw n) : m = n := by
  unfold sw at h
  repeat' split at h
  all_goals omega
theorem sw_0 {n : Nat} (h : sw n = 0) : n = 0 := by
  unfold sw at h
  repeat' split at h
  all_goals omega
set_option maxRecDepth 100000 in
set_option maxHeartbeats 4000000 in
theorem mk_sw (cI cZ cC cG cB : ClassId) (ad : Nat → Nat) : ∀ k, 0 < k → k < 75 → ∀ f, mkS cI cZ cC cG cB (fun i => ad (sw i)) k f = mkS cI cZ cC cG cB ad (sw k) f := by
  intro k h0 h f
  rcases (show k = 1 ∨ k = 2 ∨ k = 3 ∨ k = 4 ∨ k = 5 ∨ k = 6 ∨ k = 7 ∨ k = 8 ∨ k = 9 ∨ k = 10 ∨ k = 11 ∨ k = 12 ∨ k = 13 ∨ k = 14 ∨ k = 15 ∨ k = 16 ∨ k = 17 ∨ k = 18 ∨ k = 19 ∨ k = 20 ∨ k = 21 ∨ k = 22 ∨ k = 23 ∨ k = 24 ∨ k = 25 ∨ k = 26 ∨ k = 27 ∨ k = 28 ∨ k = 29 ∨ k = 30 ∨ k = 31 ∨ k = 32 ∨ k = 33 ∨ k = 34 ∨ k = 35 ∨ k = 36 ∨ k = 37 ∨ k = 38 ∨ k = 39 ∨ k = 40 ∨ k = 41 ∨ k = 42 ∨ k = 43 ∨ k = 44 ∨ k = 45 ∨ k = 46 ∨ k = 47 ∨ k = 48 ∨ k = 49 ∨ k = 50 ∨ k = 51 ∨ k = 52 ∨ k = 53 ∨ k = 54 ∨ k = 55 ∨ k = 56 ∨ k = 57 ∨ k = 58 ∨ k = 59 ∨ k = 60 ∨ k = 61 ∨ k = 62 ∨ k = 63 ∨ k = 64 ∨ k = 65 ∨ k = 66 ∨ k = 67 ∨ k = 68 ∨ k = 69 ∨ k = 70 ∨ k = 71 ∨ k = 72 ∨ k = 73 ∨ k = 74 by omega) with rfl | rfl | rfl | rfl | rfl | rfl | rfl | rfl | rfl | rfl | rfl | rfl | rfl | rfl | rfl | rfl | rfl | rfl | rfl | rfl | rfl | rfl | rfl | rfl | rfl | rfl | rfl | rfl | rfl | rfl | rfl | rfl | rfl | rfl | rfl | rfl | rfl | rfl | rfl | rfl | rfl | rfl | rfl | rfl | rfl | rfl | rfl | rfl | rfl | rfl | rfl | rfl | rfl | rfl | rfl | rfl | rfl | rfl | rfl | rfl | rfl | rfl | rfl | rfl | rfl | rfl | rfl | rfl | rfl | rfl | rfl | rfl | rfl | rfl
  case inr.inr.inr.inr.inr.inr.inl =>
    show (Sum.inl (cG, 2, .inr (.inr (.inr (.inr (fun j => some (ad (sw (37 + 11 * j)))))))) : va_E) = .inl (cG, 2, .inr (.inr (.inr (.inr (fun j => some (ad (37 + 11 * j)))))))
    have e : (fun j : Nat => some (ad (sw (37 + 11 * j)))) = (fun j : Nat => some (ad (37 + 11 * j))) := by
      funext j; rw [sw_big (by omega)]
    rw [e]
  case inr.inr.inr.inr.inr.inr.inr.inl =>
    show (Sum.inl (cB, 6, .inr (.inr (.inr (.inr (fun j => some (ad (sw (69 + j)))))))) : va_E) = .inl (cB, 6, .inr (.inr (.inr (.inr (fun j => some (ad (69 + j)))))))
    have e : (fun j : Nat => some (ad (sw (69 + j)))) = (fun j : Nat => some (ad (69 + j))) := by
      funext j; rw [sw_big (by omega)]
    rw [e]
  all_goals rfl
/-- the contract's end: behind a text that is well the cities have changed places -/
def c_Qc (D : va_G) (cI cZ cC cG cB : ClassId) (ad : Nat → Nat) (res : Int32 × St) : Array Value → State → Outcome → State → Prop := va_Qi (fun (r : Int32) (u : St) => (r, u) = res) (fun u t => va_P D vwCl (w_d (mkS cI cZ cC cG cB (cad ad res.1)) (cad ad res.1) 75 u) t.heap) (w_A ad 75)
theorem ret_city {l : Launch} {D : va_G} {cI cZ cC cG cB : ClassId} {ad ad' : Nat → Nat} {a : Program × Env × State × MethodId} {b : Array Value × List Frame × Method × Code × (State → Prop) × Nat} {res : Int32 × St} (hQ : b.2.2.2.2.1 = MQ b.2.1 (c_Qc D cI cZ cC cG cB ad res) b.1 a.2.2.1 0 0 (w_A ad 75)) (K : KS (GS l 6 137 D cI cZ cC cG cB ad' a b (w_A ad 75)) cX11_city RX11 wsX11_city (some .int)) (hc : cad ad res.1 = ad') : HRi (GS l 6 137 D cI cZ cC cG cB ad' a b (w_A ad 75)) cX11_city tb res := by
  subst hc
  intro pc lv hdg _ H locs ls hP hS hl
  have h := W.iret (p := a.1) (l := l) (e := a.2.1) (R := { frames := 6, cells := 0, slots := 0, locals := 137 }) (s := a.2.2.1) (m := a.2.2.2) (args := b.1) (below := b.2.1) (meth := b.2.2.1) (c := b.2.2.2.1) (H := H) (locs := locs) (cells := 0) (slots := 0) (v := res.1) (Qc := c_Qc D cI cZ cC cG cB ad res) (free := w_A ad 75) (pc := pc) (ls := ls) K.1 K.2.1 K.2.2.2.2.2.1 (fun t ht _ => ⟨⟨res.1, res.2, rfl, rfl, (show va_P D vwCl (w_d (mkS cI cZ cC cG cB (cad ad res.1)) (cad ad res.1) 75 res.2) t.heap by rw [ht]; exact hP)⟩, hS.F ht⟩) hS.2.2 hdg K.2.2.2.2.2.2.1
  rw [← hQ] at h
  exact h
set_option maxRecDepth 100000 in
set_option maxHeartbeats 4000000 in
/-- the two fields are written: the world is that of the other addresses -/
theorem city_swap {l : Launch} {D : va_G} {cI cZ cC cG cB : ClassId} {ad : Nat → Nat} {a : Program × Env × State × MethodId} {b : Array Value × List Frame × Method × Code × (State → Prop) × Nat} {A : Nat → Prop} {r : Int32} {σ : St} (K : KS (GS l 6 137 D cI cZ cC cG cB ad a b A) cX11_city RX11 wsX11_city (some .int))
    (kk : Wk (GS l 6 137 D cI cZ cC cG cB (fun i => ad (sw i)) a b A) 44 [(0, .ref (ad 0)), (1, .int r)] [] (s_sw σ)) : Wk (GS l 6 137 D cI cZ cC cG cB ad a b A) 36 [(2, .ref (ad 18)), (1, .int r), (0, .ref (ad 0))] [.ref (ad 10), .ref (ad 0)] σ := by
  intro H locs ls hP hS hl
  have g0 : (w_d (mkS cI cZ cC cG cB ad) ad 75 σ)[0]? = some (ad 0, _) := w_d_get (by decide) (mS_0 cI cZ cC cG cB ad (σ 0))
  have hD0 := w_d_D (mk := mkS cI cZ cC cG cB ad) σ K.ds K.as
  refine va_put (ci := 11) (v := .ref (ad 10)) (ty := .object "SlopeCoins$City") K.1 K.2.1 K.ts iX11_city_X11 tyX11 tyX11_ok nmX11 K.2.2.2.1 K.vk hP hD0 hS 0 g0 rfl 3 (by decide) (K.ts _ fX11_city_20) (fun _ h => h) rfl (by decide +kernel) rfl rfl (Nat.le_of_ble_eq_true rfl) dX11_city_36 (fun H1 locs1 hP1 hD1 hS1 => ?_)
  refine lv_aload_n K.1 K.2.1 dX11_city_39 rfl (lv_at hl 2 rfl) ?_
  refine lv_aload_n K.1 K.2.1 dX11_city_40 rfl (lv_at hl 0 rfl) ?_
  have hlen : 0 < (w_d (mkS cI cZ cC cG cB ad) ad 75 σ).length := (List.getElem?_eq_some_iff.mp g0).1
  refine va_put (ci := 11) (v := .ref (ad 18)) (ty := .object "SlopeCoins$City") K.1 K.2.1 K.ts iX11_city_X11 tyX11 tyX11_ok nmX11 K.2.2.2.1 K.vk hP1 hD1 hS1 0 (List.getElem?_set_self hlen) rfl 2 (by decide) (K.ts _ fX11_city_16) (fun _ h => h) rfl (by decide +kernel) rfl rfl (Nat.le_of_ble_eq_true rfl) dX11_city_41 (fun H2 locs2 hP2 hD2 hS2 => ?_)
  refine kk H2 locs2 ls ?_ hS2 (lv_sub hl [2, 1] rfl)
  intro k q hk
  have hk75 : k < 75 := by have := (List.getElem?_eq_some_iff.mp hk).1; simpa [w_d] using this
  rw [w_d_get hk75 rfl] at hk
  cases hk
  by_cases h0 : k = 0
  · subst h0
    refine hP2 0 _ ?_
    rw [List.set_set, List.getElem?_set_self hlen]
    rfl
  · refine hP2 (sw k) _ ?_
    have hs : sw k ≠ 0 := fun h => h0 (sw_0 h)
    rw [List.getElem?_set_ne (Ne.symm hs), List.getElem?_set_ne (Ne.symm hs), w_d_get (sw_lt hk75) rfl]
    exact congrArg (fun z => some (ad (sw k), z)) (mk_sw cI cZ cC cG cB ad k (by omega) hk75 (σ (sw k))).symm
theorem city_67_r : ∀ (n : Nat) (v1 v3 : Int32) (σ : St) {res : Int32 × St}, mX11_city_67 n v1 v3 σ = some res → res.1 = v1 := by
  intro n
  induction n with
  | zero => intro v1 v3 σ res h; cases h
  | succ n ih =>
    intro v1 v3 σ res h
    unfold mX11_city_67 at h
    by_cases q : v3 < 2
    · have h := if_t q h
      obtain ⟨_, h⟩ := gd_some h
      have h := lt_some (lt_some h)
      exact ih _ _ _ h
    · have h := if_f q h
      cases h
      rfl
theorem city_44_r {v1 : Int32} {σ : St} {res : Int32 × St} (h : mX11_city_44 v1 σ = some res) : res.1 = v1 := by
  unfold mX11_city_44 at h
  obtain ⟨⟨r, s⟩, _, h⟩ := bd_some h
  exact city_67_r _ _ _ _ (lt_some (lt_some h))
set_option maxRecDepth 100000 in
set_option maxHeartbeats 4000000 in
theorem ctX11_city {l : Launch} {D : va_G} {cI cZ cC cG cB : ClassId} {ad : Nat → Nat} {σ : St} {res : Int32 × St} (h : mX11_city σ = some res) : Met l yX11_city wsX11_city { frames := 6, cells := 0, slots := 0, locals := 137 } (c_P D vwCl (tysS cI cZ cC cG cB) nwS (mkS cI cZ cC cG cB ad) ad 75 [.ref (ad 0)] σ) (c_Qc D cI cZ cC cG cB ad res) 0 0 (w_A ad 75) := by
  refine c_body (cc := cX11_city) (maxL := 4) (ret := some .int) (by decide) rfl (Nat.le_of_ble_eq_true rfl) fun a b hQ hn K => ?_
  have K : KS (GS l 6 137 D cI cZ cC cG cB ad a b (w_A ad 75)) cX11_city RX11 wsX11_city (some .int) := K
  have hn : x_n (GS l 6 137 D cI cZ cC cG cB ad a b (w_A ad 75)) = 4 := hn
  unfold mX11_city at h
  refine k_sub [0] rfl ?_
  refine k_aload_n K dX11_city_0 0 rfl ?_
  refine k_get K 0 11 4 iX11_city_X11 (Nat.le_of_ble_eq_true rfl) ((mS_0 cI cZ cC cG cB ad) _) rfl (by decide) fX11_city_26 rfl dX11_city_1 ?_
  refine k_aload_n K dX11_city_4 0 rfl ?_
  refine k_get K 0 11 0 iX11_city_X11 (Nat.le_of_ble_eq_true rfl) ((mS_0 cI cZ cC cG cB ad) _) rfl (by decide) fX11_city_9 rfl dX11_city_5 ?_
  refine k_aload_n K dX11_city_8 0 rfl ?_
  refine k_get K 0 11 1 iX11_city_X11 (Nat.le_of_ble_eq_true rfl) ((mS_0 cI cZ cC cG cB ad) _) rfl (by decide) fX11_city_94 rfl dX11_city_9 ?_
  refine k_aload_n K dX11_city_12 0 rfl ?_
  refine k_get K 0 11 3 iX11_city_X11 (Nat.le_of_ble_eq_true rfl) ((mS_0 cI cZ cC cG cB ad) _) rfl (by decide) fX11_city_20 rfl dX11_city_13 ?_
  obtain ⟨⟨r1, s2⟩, e3, h⟩ := bd_some h
  dsimp only at h
  refine k_callVi K 68 7 (Nat.le_of_ble_eq_true rfl) ((mS_68 cI cZ cC cG cB ad) _) rfl (ctX7_readText e3) (cwV 3 K.ts gX11_city_X7_readText rfl rfl rfl hVX7_readText ⟨Nat.le_of_ble_eq_true rfl, Nat.le_of_ble_eq_true rfl⟩) rfl rfl (Nat.le_of_ble_eq_true rfl) dX11_city_16 ?_
  refine k_istore_n (lv' := [(1, _), (0, _)]) K dX11_city_19 (by rw [hn]; decide) rfl ?_
  refine k_iload_n K dX11_city_20 0 rfl ?_
  refine k_if_ge (tgt := 26) K dX11_city_21 (by decide) (fun q => ?_) (fun q => ?_)
  · have h := if_f q h
    refine k_aload_n K dX11_city_26 1 rfl ?_
    refine k_get K 0 11 3 iX11_city_X11 (Nat.le_of_ble_eq_true rfl) ((mS_0 cI cZ cC cG cB ad) _) rfl (by decide) fX11_city_20 rfl dX11_city_27 ?_
    refine k_astore_n (lv' := [(2, _), (1, _), (0, _)]) K dX11_city_30 (by rw [hn]; decide) rfl ?_
    refine k_aload_n K dX11_city_31 2 rfl ?_
    refine k_aload_n K dX11_city_32 2 rfl ?_
    refine k_get K 0 11 2 iX11_city_X11 (Nat.le_of_ble_eq_true rfl) ((mS_0 cI cZ cC cG cB ad) _) rfl (by decide) fX11_city_16 rfl dX11_city_33 ?_
    refine city_swap K ?_
    have K' : KS (GS l 6 137 D cI cZ cC cG cB (fun i => ad (sw i)) a b (w_A ad 75)) cX11_city RX11 wsX11_city (some .int) := ⟨K.1, K.2.1, K.2.2.1, K.2.2.2.1, K.ts, K.2.2.2.2.2.1, K.2.2.2.2.2.2.1, ⟨K.vk, K.nw⟩, fun i j hi hj e => sw_inj (K.ds _ _ (sw_lt hi) (sw_lt hj) e), fun i hi => K.as _ (sw_lt hi)⟩
    have hc : cad ad res.1 = fun i => ad (sw i) := by
      rw [city_44_r h]
      unfold cad
      rw [if_neg q]
    exact wX11_city_44 K' hn (ret_city hQ K' hc) _ _ h
  · have h := if_t q h
    refine k_iload_n K dX11_city_24 0 rfl ?_
    have hc : cad ad res.1 = ad := by
      cases h
      unfold cad
      rw [if_pos q]
    exact ret_i (ret_city hQ K hc) h dX11_city_25 trivial

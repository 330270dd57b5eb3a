/-! the law from its entry: its walk -/
set_option maxRecDepth 100000 in
set_option maxHeartbeats 8000000 in
theorem whole_start_open {I : St → St → Prop} (hSim : Sim I) (hI0 : I sS0 sM0) {p : Program} {e : Env} {s : State} {m : MethodId} {below : List Frame} {meth : Method} {c : Code} (l : Launch) {b L : Nat} {xs : Nat → Int32} (hL : L ≤ 2560) (C0 : lw_At p s m meth c b L xs) : W p l e room_1 s m #[Value.ref b] below meth c s.heap [] 0 0 (lw_Z below #[Value.ref b] s) (entryFrame m ([Value.ref b] : List Value).toArray 4) := by
  obtain ⟨hx, hb, hr, hml, hown, hts, hX, hbl, hlocks, hgv⟩ := id C0
  obtain ⟨c0, iS0, hKn0⟩ := u_known (C := RX0) (T := TX0) (N := 0) (n := 0) hts inX0 (hts _ in_instX0)
  obtain ⟨c1, iS1, hKn1⟩ := u_known (C := RX1) (T := TX1) (N := 0) (n := 0) hts inX1 (hts _ in_instX1)
  obtain ⟨c2, iS2, hKn2⟩ := u_known (C := RX2) (T := TX2) (N := 12) (n := 12) hts inX2 (hts _ in_instX2)
  obtain ⟨c3, iS3, hKn3⟩ := u_known (C := RX3) (T := TX3) (N := 12) (n := 12) hts inX3 (hts _ in_instX3)
  obtain ⟨c4, iS4, hKn4⟩ := u_known (C := RX4) (T := TX4) (N := 0) (n := 0) hts inX4 (hts _ in_instX4)
  obtain ⟨c5, iS5, hKn5⟩ := u_known (C := RX5) (T := TX5) (N := 0) (n := 0) hts inX5 (hts _ in_instX5)
  obtain ⟨c6, iS6, hKn6⟩ := u_known (C := RX6) (T := TX6) (N := 6) (n := 6) hts inX6 (hts _ in_instX6)
  obtain ⟨c7, iS7, hKn7⟩ := u_known (C := RX7) (T := TX7) (N := 7) (n := 7) hts inX7 (hts _ in_instX7)
  obtain ⟨c8, iS8, hKn8⟩ := u_known (C := RX8) (T := TX8) (N := 5) (n := 5) hts inX8 (hts _ in_instX8)
  obtain ⟨c9, iS9, hKn9⟩ := u_known (C := RX9) (T := TX9) (N := 0) (n := 0) hts inX9 (hts _ in_instX9)
  obtain ⟨c10, iS10, hKn10⟩ := u_known (C := RX10) (T := TX10) (N := 0) (n := 0) hts inX10 (hts _ in_instX10)
  obtain ⟨c11, iS11, hKn11⟩ := u_known (C := RX11) (T := TX11) (N := 17) (n := 17) hts inX11 (hts _ in_instX11)
  obtain ⟨c12, iS12, hKn12⟩ := u_known (C := RX12) (T := TX12) (N := 36) (n := 36) hts inX12 (hts _ in_instX12)
  obtain ⟨cI, aI1, aI2⟩ := arr_prim (ty := .int) (fun _ h => by cases h) (hts _ in_arr_int)
  obtain ⟨cZ, aZ1, aZ2⟩ := arr_prim (ty := .boolean) (fun _ h => by cases h) (hts _ in_arr_boolean)
  obtain ⟨cC, aC1, aC2⟩ := arr_prim (ty := .char) (fun _ h => by cases h) (hts _ in_arr_char)
  obtain ⟨cG, aG1, aG2⟩ := arr_ref (C := "SlopeCoins$Ground") (hts _ (in_nwI _ (by decide +kernel)))
  obtain ⟨cB, aB1, aB2⟩ := arr_ref (C := "SlopeCoins$CellKind") (hts _ (in_nwI _ (by decide +kernel)))
  obtain ⟨dC, dI, hKc⟩ : ∃ (dC : Nat → ClassId) (dI : Nat → Nat → Nat), ∀ (k : Nat) (q : vw_C), vwCl[k]? = some q → u_Kn s q.1 q.2.1 q.2.2 (dC k) (dI k) := by
    refine ⟨fun k => match k with | 0 => c0 | 1 => c1 | 2 => c2 | 3 => c3 | 4 => c4 | 5 => c5 | 6 => c6 | 7 => c7 | 8 => c8 | 9 => c9 | 10 => c10 | 11 => c11 | _ => c12, fun k => match k with | 0 => iS0 | 1 => iS1 | 2 => iS2 | 3 => iS3 | 4 => iS4 | 5 => iS5 | 6 => iS6 | 7 => iS7 | 8 => iS8 | 9 => iS9 | 10 => iS10 | 11 => iS11 | _ => iS12, ?_⟩
    intro k q hq
    match k, hq with
    | 0, hq => cases hq; exact hKn0
    | 1, hq => cases hq; exact hKn1
    | 2, hq => cases hq; exact hKn2
    | 3, hq => cases hq; exact hKn3
    | 4, hq => cases hq; exact hKn4
    | 5, hq => cases hq; exact hKn5
    | 6, hq => cases hq; exact hKn6
    | 7, hq => cases hq; exact hKn7
    | 8, hq => cases hq; exact hKn8
    | 9, hq => cases hq; exact hKn9
    | 10, hq => cases hq; exact hKn10
    | 11, hq => cases hq; exact hKn11
    | 12, hq => cases hq; exact hKn12
    | k + 13, hq => exact absurd (List.getElem?_eq_some_iff.mp hq).1 (by simp [vwCl])
  have hKS : va_K (dC, dI) vwCl (tysS cI cZ cC cG cB) s := ⟨hKc, fun k q h => by
    match k, h with
    | 0, h => cases h; exact ⟨aI1, aI2⟩
    | 1, h => cases h; exact ⟨aZ1, aZ2⟩
    | 2, h => cases h; exact ⟨aC1, aC2⟩
    | 3, h => cases h; exact ⟨aG1, aG2⟩
    | 4, h => cases h; exact ⟨aB1, aB2⟩
    | k + 5, h => exact absurd (List.getElem?_eq_some_iff.mp h).1 (by simp [tysS])⟩
  have hKM : va_K (dC, dI) vwCl (tysM cI cZ) s := ⟨hKc, fun k q h => by
    match k, h with
    | 0, h => cases h; exact ⟨aI1, aI2⟩
    | 1, h => cases h; exact ⟨aZ1, aZ2⟩
    | k + 2, h => exact absurd (List.getElem?_eq_some_iff.mp h).1 (by simp [tysM])⟩
  have hts2 : ∀ w ∈ wsL_law, w.before #[Value.ref b] s = true := fun w h => hts w (wsL_law_in w h)
  have hA : ∀ q : Nat, s.heap.size ≤ q → (fun q : Nat => s.heap.size ≤ q) q := fun _ h => h
  have K1 : KS ((p, l, e, room_1, s, m), (#[Value.ref b], below, meth, c, lw_Z below #[Value.ref b] s, 4), (((dC, dI) : va_G), vwCl, tysS cI cZ cC cG cB, nwI), ((fun _ _ => .inr (0, []) : Mk), (fun _ => 0 : Nat → Nat), 0, (fun q : Nat => s.heap.size ≤ q))) cL_law RL wsL_law ret := ⟨hx, hb, hml, hown, hts2, hr, hlocks, ⟨hKS, nwP_I hts⟩, fun i j hi _ _ => absurd hi (Nat.not_lt_zero i), fun i hi => absurd hi (Nat.not_lt_zero i)⟩
  have K2 : KS ((p, l, e, room_1, s, m), (#[Value.ref b], below, meth, c, lw_Z below #[Value.ref b] s, 4), (((dC, dI) : va_G), vwCl, tysM cI cZ, nwI), ((fun _ _ => .inr (0, []) : Mk), (fun _ => 0 : Nat → Nat), 0, (fun q : Nat => s.heap.size ≤ q))) cL_law RL wsL_law ret := ⟨hx, hb, hml, hown, hts2, hr, hlocks, ⟨hKM, nwP_I hts⟩, fun i j hi _ _ => absurd hi (Nat.not_lt_zero i), fun i hi => absurd hi (Nat.not_lt_zero i)⟩
  have ZKz : ZK ((p, l, e, s, m), (below, meth, c, b), (((dC, dI) : va_G), cI, cZ, cC, cG, cB, cI, cZ)) L xs := ⟨C0, ⟨hKS, nwP_S hts⟩, ⟨hKM, fun w h => absurd h List.not_mem_nil⟩⟩
  have hl := lv_entry ([.ref b]) (n := 4) (Nat.le_of_ble_eq_true rfl)
  rw [lg_entry_eq]
  generalize (lg_sl ([.ref b]) ++ List.replicate (4 - (lg_sl ([.ref b])).length) Slot.unset).toArray = ls at hl ⊢
  have hl : lv_has ls 4 [(0, .ref b)] := hl
  have main : Wl ((p, l, e, room_1, s, m), (#[Value.ref b], below, meth, c, lw_Z below #[Value.ref b] s, 4), (((dC, dI) : va_G), vwCl, tysS cI cZ cC cG cB, nwI), ((fun _ _ => .inr (0, []) : Mk), (fun _ => 0 : Nat → Nat), 0, (fun q : Nat => s.heap.size ≤ q))) 0 [(0, .ref b)] [] [] 0 0 := by
    refine l_newH (fs := [.null, .int 0, .null, .null, .null, .null, .null, .null, .null, .null, .null, .null, .null, .null, .null, .int 0, .long 0]) K1 hA 11 tyX11 tyX11_ok inlX11 rfl (by decide +kernel) (by decide +kernel) (by decide +kernel) (fun j hj => by rcases (show j = 0 ∨ j = 1 ∨ j = 2 ∨ j = 3 ∨ j = 4 ∨ j = 5 ∨ j = 6 ∨ j = 7 ∨ j = 8 ∨ j = 9 ∨ j = 10 ∨ j = 11 ∨ j = 12 ∨ j = 13 ∨ j = 14 ∨ j = 15 ∨ j = 16 by omega) with rfl | rfl | rfl | rfl | rfl | rfl | rfl | rfl | rfl | rfl | rfl | rfl | rfl | rfl | rfl | rfl | rfl <;> rfl) (Nat.le_of_ble_eq_true rfl) (Nat.le_of_ble_eq_true rfl) dL_law_0 (fun h1 => ?_)
    refine l_dup K1 dL_law_3 rfl ?_
    refine l_initP K1 hA (fun _ => ctX11_init) (cwI 0 K1.ts gL_law_X11_init rfl rfl rfl (K1.ts _ (by decide +kernel)) (K1.ts _ (by decide +kernel)) (K1.ts _ (by decide +kernel)) rfl hI_X11_init ⟨Nat.le_of_ble_eq_true rfl, Nat.le_of_ble_eq_true rfl⟩) (Nat.le_of_ble_eq_true rfl) ⟨Nat.le_of_ble_eq_true rfl, Nat.le_of_ble_eq_true rfl⟩ dL_law_4 (fun u => ?_)
    refine l_astore_n (lv' := [(1, .ref h1), (0, .ref b)]) K1 dL_law_7 (by show (1 : Nat) < 4; decide) rfl ?_
    show Wl ((p, l, e, room_1, s, m), (#[Value.ref b], below, meth, c, lw_Z below #[Value.ref b] s, 4), (((dC, dI) : va_G), vwCl, tysM cI cZ, nwI), ((fun _ _ => .inr (0, []) : Mk), (fun _ => 0 : Nat → Nat), 0, (fun q : Nat => s.heap.size ≤ q))) _ _ _ _ _ _
    refine l_newH (fs := [.null, .null, .null, .int 0, .int 0, .int 0, .null, .null, .int 0, .null, .int 0, .null, .null, .null, .null, .int 0, .long 0, .int 0, .int 0, .int 0, .int 0, .int 0, .null, .null, .null, .int 0, .int 0, .null, .int 0, .null, .int 0, .int 0, .int 0, .int 0, .int 0, .null]) K2 hA 12 tyX12 tyX12_ok inlX12 rfl (by decide +kernel) (by decide +kernel) (by decide +kernel) (fun j hj => by rcases (show j = 0 ∨ j = 1 ∨ j = 2 ∨ j = 3 ∨ j = 4 ∨ j = 5 ∨ j = 6 ∨ j = 7 ∨ j = 8 ∨ j = 9 ∨ j = 10 ∨ j = 11 ∨ j = 12 ∨ j = 13 ∨ j = 14 ∨ j = 15 ∨ j = 16 ∨ j = 17 ∨ j = 18 ∨ j = 19 ∨ j = 20 ∨ j = 21 ∨ j = 22 ∨ j = 23 ∨ j = 24 ∨ j = 25 ∨ j = 26 ∨ j = 27 ∨ j = 28 ∨ j = 29 ∨ j = 30 ∨ j = 31 ∨ j = 32 ∨ j = 33 ∨ j = 34 ∨ j = 35 by omega) with rfl | rfl | rfl | rfl | rfl | rfl | rfl | rfl | rfl | rfl | rfl | rfl | rfl | rfl | rfl | rfl | rfl | rfl | rfl | rfl | rfl | rfl | rfl | rfl | rfl | rfl | rfl | rfl | rfl | rfl | rfl | rfl | rfl | rfl | rfl | rfl <;> rfl) (Nat.le_of_ble_eq_true rfl) (Nat.le_of_ble_eq_true rfl) dL_law_8 (fun h2 => ?_)
    refine l_dup K2 dL_law_11 rfl ?_
    refine l_initP K2 hA (fun _ => ctX12_init) (cwI 0 K2.ts gL_law_X12_init rfl rfl rfl (K2.ts _ (by decide +kernel)) (K2.ts _ (by decide +kernel)) (K2.ts _ (by decide +kernel)) rfl hI_X12_init ⟨Nat.le_of_ble_eq_true rfl, Nat.le_of_ble_eq_true rfl⟩) (Nat.le_of_ble_eq_true rfl) ⟨Nat.le_of_ble_eq_true rfl, Nat.le_of_ble_eq_true rfl⟩ dL_law_12 (fun v => ?_)
    refine l_astore_n (lv' := [(2, .ref h2), (1, .ref h1), (0, .ref b)]) K2 dL_law_15 (by show (2 : Nat) < 4; decide) rfl ?_
    refine l_iconst (x := 0) K2 dL_law_16 (by decide) ?_
    refine l_istore_n (lv' := [(3, .int 0), (2, .ref h2), (1, .ref h1), (0, .ref b)]) K2 dL_law_17 (by show (3 : Nat) < 4; decide) rfl ?_
    intro H locs ls hP hD hS hl
    have eM := wM0_eq cI cZ h2 v
    have hP : va_P (dC, dI) vwCl (wS0 cI cZ cC cG cB h1 u ++ w_d (mkM cI cZ (adI h2 v)) (adI h2 v) 17 sM0) H := by rw [eM]; exact hP
    have hD : va_D (fun q : Nat => s.heap.size ≤ q) (wS0 cI cZ cC cG cB h1 u ++ w_d (mkM cI cZ (adI h2 v)) (adI h2 v) 17 sM0) := by rw [eM]; exact hD
    have lS := wS0_len cI cZ cC cG cB h1 u
    have gS : ∀ k, k < 75 → ∃ z, (wS0 cI cZ cC cG cB h1 u ++ w_d (mkM cI cZ (adI h2 v)) (adI h2 v) 17 sM0)[k]? = some (adI h1 u k, z) := fun k hk => by
      obtain ⟨z, hz⟩ := adOf (wS0_ad cI cZ cC cG cB h1 u) hk
      exact ⟨z, by rw [List.getElem?_append_left (by rw [lS]; exact hk)]; exact hz⟩
    have gM : ∀ k, k < 17 → ∃ z, (wS0 cI cZ cC cG cB h1 u ++ w_d (mkM cI cZ (adI h2 v)) (adI h2 v) 17 sM0)[75 + k]? = some (adI h2 v k, z) := fun k hk => by
      obtain ⟨z, hz⟩ := adOf (wM0_ad cI cZ h2 v) hk
      exact ⟨z, by rw [List.getElem?_append_right (by rw [lS]; omega), lS, show 75 + k - 75 = k by omega]; exact hz⟩
    have hPS : va_P (dC, dI) vwCl (wS0 cI cZ cC cG cB h1 u) H := fun k q hk => hP k q (by rw [List.getElem?_append_left (List.getElem?_eq_some_iff.mp hk).1]; exact hk)
    have hPM : va_P (dC, dI) vwCl (w_d (mkM cI cZ (adI h2 v)) (adI h2 v) 17 sM0) H := fun k q hk => hP (75 + k) q (by rw [List.getElem?_append_right (by rw [lS]; omega), lS, show 75 + k - 75 = k by omega]; exact hk)
    have hz : zD ((p, l, e, s, m), (below, meth, c, b), (((dC, dI) : va_G), cI, cZ, cC, cG, cB, cI, cZ)) (adS h1 u) (adI h2 v) := by
      refine ⟨fun i j hi hj h => ?_, fun i j hi hj h => ?_, fun i j hi hj h => ?_, fun i hi => ?_, fun i hi => ?_⟩
      · obtain ⟨z1, e1⟩ := gS _ (pm_lt i hi)
        obtain ⟨z2, e2⟩ := gS _ (pm_lt j hj)
        exact pm_inj i hi j hj (hD.1 _ _ _ _ e1 e2 h)
      · obtain ⟨z1, e1⟩ := gM i hi
        obtain ⟨z2, e2⟩ := gM j hj
        have := hD.1 _ _ _ _ e1 e2 h
        omega
      · obtain ⟨z1, e1⟩ := gS _ (pm_lt i hi)
        obtain ⟨z2, e2⟩ := gM j hj
        have := hD.1 _ _ _ _ e1 e2 h
        have := pm_lt i hi
        omega
      · obtain ⟨z1, e1⟩ := gS _ (pm_lt i hi)
        exact hD.2 _ _ e1
      · obtain ⟨z1, e1⟩ := gM i hi
        exact hD.2 _ _ e1
    exact law_loop (z := ((p, l, e, s, m), (below, meth, c, b), (((dC, dI) : va_G), cI, cZ, cC, cG, cB, cI, cZ))) ZKz hL hSim (h2 := h2) (am := adI h2 v) rfl (L + 6) 0 (by omega) (by omega) (adS h1 u) rfl sS0 sM0 hI0 H locs ls hz (wS0_P hPS) hPM hS (lv_sub hl [3, 2, 1, 0] rfl)
  exact main s.heap [] ls (fun k q h => by simp at h) ⟨fun i j p q h => by simp at h, fun k q h => by simp at h⟩ va_S.rf hl

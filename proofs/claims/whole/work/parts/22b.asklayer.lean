/-! rows for what is the nest's, for super calls, for a method that a subclass gives -/
section KK4
variable {Γ : Cx} {cc : ByteArray} {own : String} {Ts : List Cond} {ret : Option FieldType} {pc : Nat} {lv : List (Nat × Value)} {st : List Value} {σ : St} {y : MethodName} {ws : List Cond} {fr lo maxL n index : Nat} {bytes : ByteArray} {ret2 : Option FieldType}
theorem k_getN (K : KS Γ cc own Ts ret) (i ci k : Nat) {C host : String} {T : u_T} {N : Nat} {fs : List Value} {v : Value} (hin : ∀ w ∈ u_ws C T N, w ∈ Ts) (hi : i < x_N Γ) (hm : x_mk Γ i (σ i) = .inr (ci, fs)) (hc : (x_cl Γ)[ci]? = some (C, T, N)) (hk : k < N) (hw : Cond.fieldLinkNest own index (T k).1 (T k).2.1 (T k).2.2.1 host ∈ x_nw Γ) (hv : fs[k]? = some v) (hdg : decode cc pc = .ok (.getfield index, 3)) (kk : Wk Γ (pc + 3) lv (v :: st) σ) : Wk Γ pc lv (.ref (x_ad Γ i) :: st) σ := fun H locs ls hP hS hl => va_getN K.1 K.2.1 K.ts hin K.2.2.2.1 K.vk hP i (w_d_get hi hm) hc k hk (va_Nw.use rfl (K.nw _ hw).1) (fun _ h => h) hv hdg (kk H locs ls hP hS hl)
theorem k_putLN (K : KS Γ cc own Ts ret) (i ci k : Nat) {C host : String} {T : u_T} {N : Nat} {fs : List Value} {z : Int64} (ty0 : Nat → FieldType) (hty : ∀ k, k < N → parseFieldDescriptor (T k).2.2.1 = some (ty0 k)) (hnm : ∀ a, a < N → ∀ b, b < N → a ≠ b → (T a).2.1 ≠ (T b).2.1) (hin : ∀ w ∈ u_ws C T N, w ∈ Ts) (hi : i < x_N Γ) (hm : x_mk Γ i (σ i) = .inr (ci, fs)) (hc : (x_cl Γ)[ci]? = some (C, T, N)) (hk : k < N) (hw : Cond.fieldLinkNest own index (T k).1 (T k).2.1 (T k).2.2.1 host ∈ x_nw Γ) (hfin : (T k).2.2.2 = false) (hd : parseFieldDescriptor (T k).2.2.1 = some .long) (hl0 : k < fs.length) (he : x_mk Γ i (fun j => if j = 100 then l_hi z else if j = 101 then l_lo z else σ i j) = .inr (ci, fs.set k (.long z))) (hdg : decode cc pc = .ok (.putfield index, 3)) (kk : Wk Γ (pc + 3) lv st (s_upl σ i z)) : Wk Γ pc lv (.long z :: .ref (x_ad Γ i) :: st) σ := fun H locs ls hP hS hl => va_putN K.1 K.2.1 K.ts hin ty0 hty hnm K.2.2.2.1 K.vk hP (w_d_D σ K.ds K.as) hS i (w_d_get hi hm) hc k hk (va_Nw.use rfl (K.nw _ hw).1) (fun _ h => h) hfin hd rfl rfl hl0 hdg (fun H1 locs1 hP1 _ hS1 => kk H1 locs1 ls (k_put0 he.symm hP1) hS1 hl)
/-- super.m(..) -/
theorem k_callSUi (K : KS Γ cc own Ts ret) {C : String} {T : u_T} {NN : Nat} {fs : List Value} {As stk : List Value} {r : Int32} {u : St} (i ci : Nat) (hi : i < x_N Γ) (hm : x_mk Γ i (σ i) = .inr (ci, fs)) (hc : (x_cl Γ)[ci]? = some (C, T, NN))
    (hM : Ci (x_l Γ) y ws fr lo (x_D Γ) (x_cl Γ) (x_ty Γ) (x_nw Γ) (x_mk Γ) (x_ad Γ) (x_N Γ) (.ref (x_ad Γ i) :: As) σ (r, u))
    (cw : va_CS (x_R Γ) (x_s Γ) (x_args Γ) own index y bytes maxL ret2 ws { frames := fr, cells := 0, slots := 0, locals := lo } 0 0 n) (hn : As.length = n) (hs : As.reverse ++ .ref (x_ad Γ i) :: st = stk) (hst : (st.map fun v => v.category).sum ≤ 8) (hdg : decode cc pc = .ok (.invokespecial index, 3))
    (kk : Wk Γ (pc + 3) lv (.int r :: st) u) : Wk Γ pc lv stk σ := by
  subst hs
  intro H locs ls hP hS hl
  refine va_calli (va_runSU (As := As) (rest := st) (b := x_ad Γ i) (C := C) (K.vk.1 ci _ hc).2 ⟨K.1, K.2.1, K.2.2.1, K.2.2.2.1, K.ts⟩ hM cw ⟨c_P_blind, va_recv K.vk hP hc (w_d_get hi hm), fun U hU hW => ⟨rfl, by rw [hU]; exact hP, va_K.moved hW.alike K.vk, K.nw.warm hW, K.ds⟩⟩ rfl hn hl.1 rfl (lv_room hst) hdg ⟨Nat.zero_le _, Nat.zero_le _⟩) hS (fun q _ h => k_free K q h) (k_free K) (fun r1 u1 t H1 locs1 ht hvm hw hB hz1 hk1 hS1 => ?_)
  cases hw
  rw [ht] at hB
  exact kk H1 locs1 ls hB hS1 hl
/-- a nest mate's private method -/
theorem k_callVNi (K : KS Γ cc own Ts ret) {C host : String} {T : u_T} {NN : Nat} {fs : List Value} {As stk : List Value} {r : Int32} {u : St} (i ci : Nat) (hi : i < x_N Γ) (hm : x_mk Γ i (σ i) = .inr (ci, fs)) (hc : (x_cl Γ)[ci]? = some (C, T, NN))
    (hM : Ci (x_l Γ) y ws fr lo (x_D Γ) (x_cl Γ) (x_ty Γ) (x_nw Γ) (x_mk Γ) (x_ad Γ) (x_N Γ) (.ref (x_ad Γ i) :: As) σ (r, u))
    (cw : va_CN (x_R Γ) (x_s Γ) (x_args Γ) own index y host bytes maxL ret2 ws { frames := fr, cells := 0, slots := 0, locals := lo } 0 0 n ∧ (Cond.instanceMethod y).before (x_args Γ) (x_s Γ) = true ∧ (Cond.selects C y y).before (x_args Γ) (x_s Γ) = true) (hn : As.length = n) (hs : As.reverse ++ .ref (x_ad Γ i) :: st = stk) (hst : (st.map fun v => v.category).sum ≤ 8) (hdg : decode cc pc = .ok (.invokevirtual index, 3))
    (kk : Wk Γ (pc + 3) lv (.int r :: st) u) : Wk Γ pc lv stk σ := by
  subst hs
  intro H locs ls hP hS hl
  refine va_calli (va_runVN (As := As) (rest := st) (b := x_ad Γ i) ⟨K.1, K.2.1, K.2.2.1, K.2.2.2.1, K.ts⟩ hM cw ⟨c_P_blind, va_recv K.vk hP hc (w_d_get hi hm), fun U hU hW => ⟨rfl, by rw [hU]; exact hP, va_K.moved hW.alike K.vk, K.nw.warm hW, K.ds⟩⟩ rfl hn hl.1 rfl (lv_room hst) hdg ⟨Nat.zero_le _, Nat.zero_le _⟩) hS (fun q _ h => k_free K q h) (k_free K) (fun r1 u1 t H1 locs1 ht hvm hw hB hz1 hk1 hS1 => ?_)
  cases hw
  rw [ht] at hB
  exact kk H1 locs1 ls hB hS1 hl
/-- a method that the receiver's class gives for the one that is named -/
theorem k_callUi (K : KS Γ cc own Ts ret) {C owner : String} {x : MethodName} {T : u_T} {NN : Nat} {fs : List Value} {As stk : List Value} {r : Int32} {u : St} (i ci : Nat) (hi : i < x_N Γ) (hm : x_mk Γ i (σ i) = .inr (ci, fs)) (hc : (x_cl Γ)[ci]? = some (C, T, NN))
    (hM : Ci (x_l Γ) y ws fr lo (x_D Γ) (x_cl Γ) (x_ty Γ) (x_nw Γ) (x_mk Γ) (x_ad Γ) (x_N Γ) (.ref (x_ad Γ i) :: As) σ (r, u))
    (cw : va_CU (x_R Γ) (x_s Γ) (x_args Γ) own C owner index x y bytes maxL ret2 ws { frames := fr, cells := 0, slots := 0, locals := lo } 0 0 n) (hn : As.length = n) (hs : As.reverse ++ .ref (x_ad Γ i) :: st = stk) (hst : (st.map fun v => v.category).sum ≤ 8) (hdg : decode cc pc = .ok (.invokevirtual index, 3))
    (kk : Wk Γ (pc + 3) lv (.int r :: st) u) : Wk Γ pc lv stk σ := by
  subst hs
  intro H locs ls hP hS hl
  refine va_calli (va_runU (As := As) (rest := st) (b := x_ad Γ i) ⟨K.1, K.2.1, K.2.2.1, K.2.2.2.1, K.ts⟩ hM cw ⟨c_P_blind, va_recv K.vk hP hc (w_d_get hi hm), fun U hU hW => ⟨rfl, by rw [hU]; exact hP, va_K.moved hW.alike K.vk, K.nw.warm hW, K.ds⟩⟩ rfl hn hl.1 rfl (lv_room hst) hdg ⟨Nat.zero_le _, Nat.zero_le _⟩) hS (fun q _ h => k_free K q h) (k_free K) (fun r1 u1 t H1 locs1 ht hvm hw hB hz1 hk1 hS1 => ?_)
  cases hw
  rw [ht] at hB
  exact kk H1 locs1 ls hB hS1 hl
end KK4

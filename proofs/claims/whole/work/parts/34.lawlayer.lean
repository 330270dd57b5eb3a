/-! THE LAW: the class's cells and the reference's stand side by side -/
abbrev Zx : Type := (Program × Launch × Env × State × MethodId) × (List Frame × Method × Code × Nat) × (va_G × ClassId × ClassId × ClassId × ClassId × ClassId × ClassId × ClassId)
abbrev z_p (z : Zx) : Program := z.1.1
abbrev z_l (z : Zx) : Launch := z.1.2.1
abbrev z_e (z : Zx) : Env := z.1.2.2.1
abbrev z_s (z : Zx) : State := z.1.2.2.2.1
abbrev z_m (z : Zx) : MethodId := z.1.2.2.2.2
abbrev z_below (z : Zx) : List Frame := z.2.1.1
abbrev z_meth (z : Zx) : Method := z.2.1.2.1
abbrev z_c (z : Zx) : Code := z.2.1.2.2.1
abbrev z_b (z : Zx) : Nat := z.2.1.2.2.2
abbrev z_D (z : Zx) : va_G := z.2.2.1
abbrev z_tS (z : Zx) : List (ClassId × FieldType) := tysS z.2.2.2.1 z.2.2.2.2.1 z.2.2.2.2.2.1 z.2.2.2.2.2.2.1 z.2.2.2.2.2.2.2.1
abbrev z_mS (z : Zx) (ad : Nat → Nat) : Mk := mkS z.2.2.2.1 z.2.2.2.2.1 z.2.2.2.2.2.1 z.2.2.2.2.2.2.1 z.2.2.2.2.2.2.2.1 ad
abbrev z_tM (z : Zx) : List (ClassId × FieldType) := tysM z.2.2.2.2.2.2.2.2.1 z.2.2.2.2.2.2.2.2.2
abbrev z_mM (z : Zx) (am : Nat → Nat) : Mk := mkM z.2.2.2.2.2.2.2.2.1 z.2.2.2.2.2.2.2.2.2 am
/-- the addresses are new and apart -/
def zD (z : Zx) (ad am : Nat → Nat) : Prop := (∀ i j, i < 75 → j < 75 → ad i = ad j → i = j) ∧ (∀ i j, i < 17 → j < 17 → am i = am j → i = j) ∧ (∀ i j, i < 75 → j < 17 → ad i ≠ am j) ∧ (∀ i, i < 75 → (z_s z).heap.size ≤ ad i) ∧ (∀ i, i < 17 → (z_s z).heap.size ≤ am i)
def Wz (z : Zx) (pc : Nat) (lv : List (Nat × Value)) (st : List Value) (ad am : Nat → Nat) (σ τ : St) : Prop :=
  ∀ (H : Heap) (locs : List Loc) (ls : Array Slot), zD z ad am → va_P (z_D z) vwCl (w_d (z_mS z ad) ad 75 σ) H → va_P (z_D z) vwCl (w_d (z_mM z am) am 17 τ) H → va_S (fun q : Nat => (z_s z).heap.size ≤ q) (z_s z).heap H locs → lv_has ls 4 lv → W (z_p z) (z_l z) (z_e z) room_1 (z_s z) (z_m z) #[Value.ref (z_b z)] (z_below z) (z_meth z) (z_c z) H locs 92 6960 (lw_Z (z_below z) #[Value.ref (z_b z)] (z_s z)) (F0 (z_m z) pc ls st)
def ZK (z : Zx) (L : Nat) (xs : Nat → Int32) : Prop := lw_At (z_p z) (z_s z) (z_m z) (z_meth z) (z_c z) (z_b z) L xs ∧ (va_K (z_D z) vwCl (z_tS z) (z_s z) ∧ nwP nwS (z_s z)) ∧ (va_K (z_D z) vwCl (z_tM z) (z_s z) ∧ nwP nwM (z_s z))
section ZZZ
variable {z : Zx} {L : Nat} {xs : Nat → Int32} {pc : Nat} {lv lv' : List (Nat × Value)} {st : List Value} {ad am : Nat → Nat} {σ τ : St} {x y : Int32} {i k tgt : Nat} {off : Int}
theorem ZK.ex (K : ZK z L xs) : (z_p z).tables.exec = Jvm.exec := K.1.1
theorem ZK.cd (K : ZK z L xs) : (z_c z).code = cL_law := K.1.2.1
theorem ZK.ts (K : ZK z L xs) : ∀ w ∈ wsL_law, w.before #[Value.ref (z_b z)] (z_s z) = true := fun w h => K.1.2.2.2.2.2.1 w (wsL_law_in w h)
theorem z_sub (ks : List Nat) (h : lv_pick lv ks = lv') (kk : Wz z pc lv' st ad am σ τ) : Wz z pc lv st ad am σ τ := fun H locs ls hz hP hQ hS hl => kk H locs ls hz hP hQ hS (lv_sub hl ks h)
theorem z_iconst (K : ZK z L xs) {n : Int} (hdg : decode cL_law pc = .ok (.iconst n, 1)) (hv : Int32.ofInt n = x) (kk : Wz z (pc + 1) lv (.int x :: st) ad am σ τ) : Wz z pc lv st ad am σ τ := fun H locs ls hz hP hQ hS hl => lv_iconst K.ex K.cd hdg hv (kk H locs ls hz hP hQ hS hl)
theorem z_bipush (K : ZK z L xs) {n : Int} (hdg : decode cL_law pc = .ok (.bipush n, 2)) (hv : (Int8.ofInt n).toInt32 = x) (kk : Wz z (pc + 2) lv (.int x :: st) ad am σ τ) : Wz z pc lv st ad am σ τ := fun H locs ls hz hP hQ hS hl => lv_bipush K.ex K.cd hdg hv (kk H locs ls hz hP hQ hS hl)
theorem z_iload_n (K : ZK z L xs) {f : Fin 4} (hdg : decode cL_law pc = .ok (.iload_n f, 1)) (k : Nat) (hk : lv[k]? = some ((f : Nat), .int x)) (kk : Wz z (pc + 1) lv (.int x :: st) ad am σ τ) : Wz z pc lv st ad am σ τ := fun H locs ls hz hP hQ hS hl => lv_iload_n K.ex K.cd hdg rfl (lv_at hl k hk) (kk H locs ls hz hP hQ hS hl)
theorem z_aload_n (K : ZK z L xs) {f : Fin 4} {a : Nat} (hdg : decode cL_law pc = .ok (.aload_n f, 1)) (k : Nat) (hk : lv[k]? = some ((f : Nat), .ref a)) (kk : Wz z (pc + 1) lv (.ref a :: st) ad am σ τ) : Wz z pc lv st ad am σ τ := fun H locs ls hz hP hQ hS hl => lv_aload_n K.ex K.cd hdg rfl (lv_at hl k hk) (kk H locs ls hz hP hQ hS hl)
theorem z_iadd (K : ZK z L xs) (hdg : decode cL_law pc = .ok (.iadd, 1)) (kk : Wz z (pc + 1) lv (.int (x + y) :: st) ad am σ τ) : Wz z pc lv (.int y :: .int x :: st) ad am σ τ := fun H locs ls hz hP hQ hS hl => lv_iadd K.ex K.cd hdg (kk H locs ls hz hP hQ hS hl)
theorem z_isub (K : ZK z L xs) (hdg : decode cL_law pc = .ok (.isub, 1)) (kk : Wz z (pc + 1) lv (.int (x - y) :: st) ad am σ τ) : Wz z pc lv (.int y :: .int x :: st) ad am σ τ := fun H locs ls hz hP hQ hS hl => lv_isub K.ex K.cd hdg (kk H locs ls hz hP hQ hS hl)
theorem z_iand (K : ZK z L xs) (hdg : decode cL_law pc = .ok (.iand, 1)) (kk : Wz z (pc + 1) lv (.int (x &&& y) :: st) ad am σ τ) : Wz z pc lv (.int y :: .int x :: st) ad am σ τ := fun H locs ls hz hP hQ hS hl => lv_iand K.ex K.cd hdg (kk H locs ls hz hP hQ hS hl)
theorem z_goto (K : ZK z L xs) (hdg : decode cL_law pc = .ok (.goto off, 3)) (ht : (pc : Int) + off = (tgt : Int)) (kk : Wz z tgt lv st ad am σ τ) : Wz z pc lv st ad am σ τ := fun H locs ls hz hP hQ hS hl => lv_goto K.ex K.cd hdg ht (kk H locs ls hz hP hQ hS hl)
theorem z_iinc (K : ZK z L xs) {n : Int} {v : Int32} (hdg : decode cL_law pc = .ok (.iinc i n, 3)) (k : Nat) (hk : lv[k]? = some (i, .int x)) (hv : x + Int32.ofInt n = v) (hn : i < 4) (hl' : (i, Value.int v) :: lv.filter (fun q => !(q.1 == i) && !(q.1 + 1 == i && q.2.category == 2)) = lv') (kk : Wz z (pc + 3) lv' st ad am σ τ) : Wz z pc lv st ad am σ τ := fun H locs ls hz hP hQ hS hl => lv_iinc K.ex K.cd hdg hl hk hv hn hl' (fun ls hl => kk H locs ls hz hP hQ hS hl)
theorem z_icmp_gt (K : ZK z L xs) (hdg : decode cL_law pc = .ok (.if_icmp .gt off, 3)) (ht : (pc : Int) + off = (tgt : Int)) (kt : y < x → Wz z tgt lv st ad am σ τ) (kf : ¬ y < x → Wz z (pc + 3) lv st ad am σ τ) : Wz z pc lv (.int y :: .int x :: st) ad am σ τ := fun H locs ls hz hP hQ hS hl => lv_icmp_gt K.ex K.cd hdg ht (fun h => kt h H locs ls hz hP hQ hS hl) (fun h => kf h H locs ls hz hP hQ hS hl)
theorem z_same (K : ZK z L xs) (hdg : decode cL_law pc = .ok (.if_icmp .eq off, 3)) (ht : (pc : Int) + off = (tgt : Int)) (kk : Wz z tgt lv st ad am σ τ) : Wz z pc lv (.int x :: .int x :: st) ad am σ τ := fun H locs ls hz hP hQ hS hl => lv_icmp_eq K.ex K.cd hdg ht (fun _ => kk H locs ls hz hP hQ hS hl) (fun h => absurd rfl h)
theorem z_sameL (K : ZK z L xs) {v : Int64} (hd1 : decode cL_law pc = .ok (.lcmp, 1)) (hdg : decode cL_law (pc + 1) = .ok (.ifCond .eq off, 3)) (ht : ((pc + 1 : Nat) : Int) + off = (tgt : Int)) (kk : Wz z tgt lv st ad am σ τ) : Wz z pc lv (.long v :: .long v :: st) ad am σ τ := fun H locs ls hz hP hQ hS hl => W.lcmp K.ex K.cd hd1 (lv_if_eq K.ex K.cd hdg ht (fun _ => kk H locs ls hz hP hQ hS hl) (fun h => absurd (by simp [lg_cmp]) h))
theorem z_case {x y : Int32} (kt : x = y → Wz z pc lv (.int x :: st) ad am σ τ) (kf : ¬ x = y → Wz z pc lv (.int x :: st) ad am σ τ) : Wz z pc lv (.int x :: st) ad am σ τ := (Classical.em (x = y)).elim kt kf
theorem z_tableIn (K : ZK z L xs) {dflt lo hi : Int} {offs : Array Int} {len : Nat} (hdg : decode cL_law pc = .ok (.tableswitch dflt lo hi offs, len)) (h1 : ¬ x.toInt < lo) (h2 : ¬ hi < x.toInt) (ho : offs[(x.toInt - lo).toNat]? = some off) (ht : (pc : Int) + off = (tgt : Int)) (kk : Wz z tgt lv st ad am σ τ) : Wz z pc lv (.int x :: st) ad am σ τ := fun H locs ls hz hP hQ hS hl => lv_tableIn K.ex K.cd hdg h1 h2 ho ht (kk H locs ls hz hP hQ hS hl)
theorem z_tableOut (K : ZK z L xs) {dflt lo hi : Int} {offs : Array Int} {len : Nat} (hdg : decode cL_law pc = .ok (.tableswitch dflt lo hi offs, len)) (h : x.toInt < lo ∨ hi < x.toInt) (ht : (pc : Int) + dflt = (tgt : Int)) (kk : Wz z tgt lv st ad am σ τ) : Wz z pc lv (.int x :: st) ad am σ τ := fun H locs ls hz hP hQ hS hl => lv_tableOut K.ex K.cd hdg h ht (kk H locs ls hz hP hQ hS hl)
theorem z_out (K : ZK z L xs) : ¬ (fun q : Nat => (z_s z).heap.size ≤ q) (z_b z) := Nat.not_le.mpr K.1.2.2.2.2.2.2.2.1
theorem z_slen (K : ZK z L xs) (hdg : decode cL_law pc = .ok (.arraylength, 1)) (kk : Wz z (pc + 1) lv (.int (nI L) :: st) ad am σ τ) : Wz z pc lv (.ref (z_b z) :: st) ad am σ τ := fun H locs ls hz hP hQ hS hl => va_slen K.ex K.cd K.1.2.2.2.2.2.2.1 K.1.2.2.2.2.2.2.2.1 (z_out K) hS hdg (kk H locs ls hz hP hQ hS hl)
theorem z_sld (K : ZK z L xs) (hin : vp_in x L) (hdg : decode cL_law pc = .ok (.iaload, 1)) (kk : Wz z (pc + 1) lv (.int (xs (nx x)) :: st) ad am σ τ) : Wz z pc lv (.int x :: .ref (z_b z) :: st) ad am σ τ := fun H locs ls hz hP hQ hS hl => va_sld K.ex K.cd K.1.2.2.2.2.2.2.1 K.1.2.2.2.2.2.2.2.1 (z_out K) hS hin hdg (kk H locs ls hz hP hQ hS hl)
theorem z_end (K : ZK z L xs) (hdg : decode cL_law pc = .ok (.ireturn, 1)) : Wz z pc lv [.int 1] ad am σ τ := fun H locs ls hz hP hQ hS hl => va_forget (fun q hq => hS.2.2 q hq) (W.widen (k := 600000) (n := 7302250) (by decide) (by decide) (lw_ret K.ex K.cd K.1.2.2.1 K.1.2.2.2.2.2.2.2.2.1 hdg))
section CALLS
variable {y : MethodName} {ws : List Cond} {fr lo maxL n index : Nat} {bytes : ByteArray} {ret2 : Option FieldType}
theorem zD.mout {ad am : Nat → Nat} (hz : zD z ad am) {H H1 : Heap} (hQ : va_P (z_D z) vwCl (w_d (z_mM z am) am 17 τ) H) (hk : ∀ q : Nat, q < H.size → ¬ w_A ad 75 q → H1[q]? = H[q]?) : va_P (z_D z) vwCl (w_d (z_mM z am) am 17 τ) H1 := hQ.kept (fun k q hq => by
  have hk17 : k < 17 := by have := (List.getElem?_eq_some_iff.mp hq).1; simpa [w_d] using this
  have hlt := (hQ k q hq).lt
  rw [w_d_get hk17 rfl] at hq
  cases hq
  exact hk _ hlt (fun h => by obtain ⟨i, hi, e⟩ := h; exact hz.2.2.1 i k hi hk17 e.symm))
theorem zD.sout {ad am : Nat → Nat} (hz : zD z ad am) {H H1 : Heap} (hP : va_P (z_D z) vwCl (w_d (z_mS z ad) ad 75 σ) H) (hk : ∀ q : Nat, q < H.size → ¬ w_A am 17 q → H1[q]? = H[q]?) : va_P (z_D z) vwCl (w_d (z_mS z ad) ad 75 σ) H1 := hP.kept (fun k q hq => by
  have hk75 : k < 75 := by have := (List.getElem?_eq_some_iff.mp hq).1; simpa [w_d] using this
  have hlt := (hP k q hq).lt
  rw [w_d_get hk75 rfl] at hq
  cases hq
  exact hk _ hlt (fun h => by obtain ⟨i, hi, e⟩ := h; exact hz.2.2.1 k i hk75 hi e))
theorem z_callS (K : ZK z L xs) {As stk : List Value} {r : Int32} {u : St} {h1 : Nat} (hh : ad 0 = h1)
    (hM : Ci (z_l z) y ws fr lo (z_D z) vwCl (z_tS z) nwS (z_mS z ad) ad 75 (.ref (ad 0) :: As) σ (r, u))
    (cw : CallW room_1 (z_s z) #[Value.ref (z_b z)] RL RX11 index y bytes maxL ret2 ws { frames := fr, cells := 0, slots := 0, locals := lo } 0 0 n) (hn : As.length = n) (hs : As.reverse ++ .ref h1 :: st = stk) (hst : (st.map fun v => v.category).sum ≤ 8) (hdg : decode cL_law pc = .ok (.invokevirtual index, 3))
    (kk : Wz z (pc + 3) lv (.int r :: st) ad am u τ) : Wz z pc lv stk ad am σ τ := by
  subst hs; subst hh
  intro H locs ls hz hP hQ hS hl
  refine va_calli (va_runV (As := As) (rest := st) (b := ad 0) ⟨K.ex, K.cd, K.1.2.2.2.1, K.1.2.2.2.2.1, K.ts⟩ hM cw ⟨c_P_blind, va_recv K.2.1.1 hP (ci := 11) rfl (w_d_get (by decide) (mS_0 _ _ _ _ _ ad (σ 0))), fun U hU hW => ⟨rfl, by rw [hU]; exact hP, va_K.moved hW.alike K.2.1.1, K.2.1.2.warm hW, hz.1⟩⟩ rfl hn hl.1 rfl (lv_room hst) hdg ⟨by decide, by decide⟩) hS (fun q _ h => by obtain ⟨i, hi, rfl⟩ := h; exact hz.2.2.2.1 i hi) (fun q h => by obtain ⟨i, hi, rfl⟩ := h; exact hz.2.2.2.1 i hi) (fun r1 u1 t H1 locs1 ht hvm hw hB hz1 hk1 hS1 => ?_)
  cases hw
  have hB : va_P (z_D z) vwCl (w_d (z_mS z ad) ad 75 u) H1 := by rw [← ht]; exact hB
  exact kk H1 locs1 ls hz hB (hz.mout hQ hk1) hS1 hl
theorem z_callM (K : ZK z L xs) {As stk : List Value} {r : Int32} {u : St} {h2 : Nat} (hh : am 0 = h2)
    (hM : Ci (z_l z) y ws fr lo (z_D z) vwCl (z_tM z) nwM (z_mM z am) am 17 (.ref (am 0) :: As) τ (r, u))
    (cw : CallW room_1 (z_s z) #[Value.ref (z_b z)] RL RX12 index y bytes maxL ret2 ws { frames := fr, cells := 0, slots := 0, locals := lo } 0 0 n) (hn : As.length = n) (hs : As.reverse ++ .ref h2 :: st = stk) (hst : (st.map fun v => v.category).sum ≤ 8) (hdg : decode cL_law pc = .ok (.invokevirtual index, 3))
    (kk : Wz z (pc + 3) lv (.int r :: st) ad am σ u) : Wz z pc lv stk ad am σ τ := by
  subst hs; subst hh
  intro H locs ls hz hP hQ hS hl
  refine va_calli (va_runV (As := As) (rest := st) (b := am 0) ⟨K.ex, K.cd, K.1.2.2.2.1, K.1.2.2.2.2.1, K.ts⟩ hM cw ⟨c_P_blind, va_recv K.2.2.1 hQ (ci := 12) rfl (w_d_get (by decide) (mM_0 _ _ am (τ 0))), fun U hU hW => ⟨rfl, by rw [hU]; exact hQ, va_K.moved hW.alike K.2.2.1, K.2.2.2.warm hW, hz.2.1⟩⟩ rfl hn hl.1 rfl (lv_room hst) hdg ⟨by decide, by decide⟩) hS (fun q _ h => by obtain ⟨i, hi, rfl⟩ := h; exact hz.2.2.2.2 i hi) (fun q h => by obtain ⟨i, hi, rfl⟩ := h; exact hz.2.2.2.2 i hi) (fun r1 u1 t H1 locs1 ht hvm hw hB hz1 hk1 hS1 => ?_)
  cases hw
  have hB : va_P (z_D z) vwCl (w_d (z_mM z am) am 17 u) H1 := by rw [← ht]; exact hB
  exact kk H1 locs1 ls hz (hz.sout hP hk1) hB hS1 hl
theorem z_callSl (K : ZK z L xs) {stk : List Value} {r : Int64} {u : St} {h1 : Nat} (hh : ad 0 = h1)
    (hM : Cl (z_l z) y ws fr lo (z_D z) vwCl (z_tS z) nwS (z_mS z ad) ad 75 [.ref (ad 0)] σ (r, u))
    (cw : CallW room_1 (z_s z) #[Value.ref (z_b z)] RL RX11 index y bytes maxL ret2 ws { frames := fr, cells := 0, slots := 0, locals := lo } 0 0 0) (hs : .ref h1 :: st = stk) (hst : (st.map fun v => v.category).sum ≤ 8) (hdg : decode cL_law pc = .ok (.invokevirtual index, 3))
    (kk : Wz z (pc + 3) lv (.long r :: st) ad am u τ) : Wz z pc lv stk ad am σ τ := by
  subst hs; subst hh
  intro H locs ls hz hP hQ hS hl
  refine va_calll (va_runV (As := []) (rest := st) (b := ad 0) ⟨K.ex, K.cd, K.1.2.2.2.1, K.1.2.2.2.2.1, K.ts⟩ hM cw ⟨c_P_blind, va_recv K.2.1.1 hP (ci := 11) rfl (w_d_get (by decide) (mS_0 _ _ _ _ _ ad (σ 0))), fun U hU hW => ⟨rfl, by rw [hU]; exact hP, va_K.moved hW.alike K.2.1.1, K.2.1.2.warm hW, hz.1⟩⟩ rfl rfl hl.1 rfl (lv_room hst) hdg ⟨by decide, by decide⟩) hS (fun q _ h => by obtain ⟨i, hi, rfl⟩ := h; exact hz.2.2.2.1 i hi) (fun q h => by obtain ⟨i, hi, rfl⟩ := h; exact hz.2.2.2.1 i hi) (fun r1 u1 t H1 locs1 ht hvm hw hB hz1 hk1 hS1 => ?_)
  cases hw
  have hB : va_P (z_D z) vwCl (w_d (z_mS z ad) ad 75 u) H1 := by rw [← ht]; exact hB
  exact kk H1 locs1 ls hz hB (hz.mout hQ hk1) hS1 hl
theorem z_callMl (K : ZK z L xs) {stk : List Value} {r : Int64} {u : St} {h2 : Nat} (hh : am 0 = h2)
    (hM : Cl (z_l z) y ws fr lo (z_D z) vwCl (z_tM z) nwM (z_mM z am) am 17 [.ref (am 0)] τ (r, u))
    (cw : CallW room_1 (z_s z) #[Value.ref (z_b z)] RL RX12 index y bytes maxL ret2 ws { frames := fr, cells := 0, slots := 0, locals := lo } 0 0 0) (hs : .ref h2 :: st = stk) (hst : (st.map fun v => v.category).sum ≤ 8) (hdg : decode cL_law pc = .ok (.invokevirtual index, 3))
    (kk : Wz z (pc + 3) lv (.long r :: st) ad am σ u) : Wz z pc lv stk ad am σ τ := by
  subst hs; subst hh
  intro H locs ls hz hP hQ hS hl
  refine va_calll (va_runV (As := []) (rest := st) (b := am 0) ⟨K.ex, K.cd, K.1.2.2.2.1, K.1.2.2.2.2.1, K.ts⟩ hM cw ⟨c_P_blind, va_recv K.2.2.1 hQ (ci := 12) rfl (w_d_get (by decide) (mM_0 _ _ am (τ 0))), fun U hU hW => ⟨rfl, by rw [hU]; exact hQ, va_K.moved hW.alike K.2.2.1, K.2.2.2.warm hW, hz.2.1⟩⟩ rfl rfl hl.1 rfl (lv_room hst) hdg ⟨by decide, by decide⟩) hS (fun q _ h => by obtain ⟨i, hi, rfl⟩ := h; exact hz.2.2.2.2 i hi) (fun q h => by obtain ⟨i, hi, rfl⟩ := h; exact hz.2.2.2.2 i hi) (fun r1 u1 t H1 locs1 ht hvm hw hB hz1 hk1 hS1 => ?_)
  cases hw
  have hB : va_P (z_D z) vwCl (w_d (z_mM z am) am 17 u) H1 := by rw [← ht]; exact hB
  exact kk H1 locs1 ls hz (hz.sout hP hk1) hB hS1 hl
theorem cad_0 (ad : Nat → Nat) (r : Int32) : cad ad r 0 = ad 0 := by
  unfold cad
  split <;> rfl
theorem zD.cad {ad am : Nat → Nat} (hz : zD z ad am) (r : Int32) : zD z (cad ad r) am := by
  by_cases h : r < 0
  · show zD z (if r < 0 then ad else fun i => ad (sw i)) am
    rw [if_pos h]
    exact hz
  · show zD z (if r < 0 then ad else fun i => ad (sw i)) am
    rw [if_neg h]
    exact ⟨fun i j hi hj e => sw_inj (hz.1 _ _ (sw_lt hi) (sw_lt hj) e), hz.2.1, fun i j hi hj => hz.2.2.1 _ j (sw_lt hi) hj, fun i hi => hz.2.2.2.1 _ (sw_lt hi), hz.2.2.2.2⟩
theorem z_callC (K : ZK z L xs) {r : Int32} {u : St} {h1 : Nat} (hh : ad 0 = h1) (hM : Met (z_l z) yX11_city wsX11_city { frames := 6, cells := 0, slots := 0, locals := 137 } (c_P (z_D z) vwCl (z_tS z) nwS (z_mS z ad) ad 75 [.ref (ad 0)] σ) (c_Qc (z_D z) z.2.2.2.1 z.2.2.2.2.1 z.2.2.2.2.2.1 z.2.2.2.2.2.2.1 z.2.2.2.2.2.2.2.1 ad (r, u)) 0 0 (w_A ad 75))
    (cw : CallW room_1 (z_s z) #[Value.ref (z_b z)] RL RX11 index yX11_city bytes maxL ret2 wsX11_city { frames := 6, cells := 0, slots := 0, locals := 137 } 0 0 0) (hst : (st.map fun v => v.category).sum ≤ 8) (hdg : decode cL_law pc = .ok (.invokevirtual index, 3))
    (kk : Wz z (pc + 3) lv (.int r :: st) (cad ad r) am u τ) : Wz z pc lv (.ref h1 :: st) ad am σ τ := by
  subst hh
  intro H locs ls hz hP hQ hS hl
  refine va_calli (va_runV (As := []) (rest := st) (b := ad 0) ⟨K.ex, K.cd, K.1.2.2.2.1, K.1.2.2.2.2.1, K.ts⟩ hM cw ⟨c_P_blind, va_recv K.2.1.1 hP (ci := 11) rfl (w_d_get (by decide) (mS_0 _ _ _ _ _ ad (σ 0))), fun U hU hW => ⟨rfl, by rw [hU]; exact hP, va_K.moved hW.alike K.2.1.1, K.2.1.2.warm hW, hz.1⟩⟩ rfl rfl hl.1 rfl (lv_room hst) hdg ⟨by decide, by decide⟩) hS (fun q _ h => by obtain ⟨i, hi, rfl⟩ := h; exact hz.2.2.2.1 i hi) (fun q h => by obtain ⟨i, hi, rfl⟩ := h; exact hz.2.2.2.1 i hi) (fun r1 u1 t H1 locs1 ht hvm hw hB hz1 hk1 hS1 => ?_)
  cases hw
  have hB : va_P (z_D z) vwCl (w_d (z_mS z (cad ad r)) (cad ad r) 75 u) H1 := by rw [← ht]; exact hB
  exact kk H1 locs1 ls (hz.cad r) hB (hz.mout hQ hk1) hS1 hl
end CALLS
end ZZZ
theorem hVX11_city : yX11_city.cls = RX11 ∧ yX11_city.cls ≠ "java/lang/invoke/MethodHandle" ∧ yX11_city.cls ≠ "java/lang/invoke/VarHandle" ∧ (parseMethodDescriptor yX11_city.desc).map (fun d => d.parameters.length) = some 0 := by decide +kernel
theorem sw_out28 {x : Int32} (q0 : ¬ x = 0) (q1 : ¬ x = 1) (q2 : ¬ x = 2) (q3 : ¬ x = 3) (q4 : ¬ x = 4) (q5 : ¬ x = 5) (q6 : ¬ x = 6) (q7 : ¬ x = 7) (q8 : ¬ x = 8) (q9 : ¬ x = 9) (q10 : ¬ x = 10) (q11 : ¬ x = 11) (q12 : ¬ x = 12) (q13 : ¬ x = 13) (q14 : ¬ x = 14) (q15 : ¬ x = 15) (q16 : ¬ x = 16) (q17 : ¬ x = 17) (q18 : ¬ x = 18) (q19 : ¬ x = 19) (q20 : ¬ x = 20) (q21 : ¬ x = 21) (q22 : ¬ x = 22) (q23 : ¬ x = 23) (q24 : ¬ x = 24) (q25 : ¬ x = 25) (q26 : ¬ x = 26) (q27 : ¬ x = 27) : x.toInt < 0 ∨ 27 < x.toInt := by
  rcases Int.lt_or_le x.toInt 0 with h | h
  · exact Or.inl h
  · rcases Int.lt_or_le 27 x.toInt with h2 | h2
    · exact Or.inr h2
    · exfalso
      have hx : x.toInt = 0 ∨ x.toInt = 1 ∨ x.toInt = 2 ∨ x.toInt = 3 ∨ x.toInt = 4 ∨ x.toInt = 5 ∨ x.toInt = 6 ∨ x.toInt = 7 ∨ x.toInt = 8 ∨ x.toInt = 9 ∨ x.toInt = 10 ∨ x.toInt = 11 ∨ x.toInt = 12 ∨ x.toInt = 13 ∨ x.toInt = 14 ∨ x.toInt = 15 ∨ x.toInt = 16 ∨ x.toInt = 17 ∨ x.toInt = 18 ∨ x.toInt = 19 ∨ x.toInt = 20 ∨ x.toInt = 21 ∨ x.toInt = 22 ∨ x.toInt = 23 ∨ x.toInt = 24 ∨ x.toInt = 25 ∨ x.toInt = 26 ∨ x.toInt = 27 := by omega
      rcases hx with e | e | e | e | e | e | e | e | e | e | e | e | e | e | e | e | e | e | e | e | e | e | e | e | e | e | e | e
      · exact q0 (Int32.toInt_inj.mp (by rw [e]; rfl))
      · exact q1 (Int32.toInt_inj.mp (by rw [e]; rfl))
      · exact q2 (Int32.toInt_inj.mp (by rw [e]; rfl))
      · exact q3 (Int32.toInt_inj.mp (by rw [e]; rfl))
      · exact q4 (Int32.toInt_inj.mp (by rw [e]; rfl))
      · exact q5 (Int32.toInt_inj.mp (by rw [e]; rfl))
      · exact q6 (Int32.toInt_inj.mp (by rw [e]; rfl))
      · exact q7 (Int32.toInt_inj.mp (by rw [e]; rfl))
      · exact q8 (Int32.toInt_inj.mp (by rw [e]; rfl))
      · exact q9 (Int32.toInt_inj.mp (by rw [e]; rfl))
      · exact q10 (Int32.toInt_inj.mp (by rw [e]; rfl))
      · exact q11 (Int32.toInt_inj.mp (by rw [e]; rfl))
      · exact q12 (Int32.toInt_inj.mp (by rw [e]; rfl))
      · exact q13 (Int32.toInt_inj.mp (by rw [e]; rfl))
      · exact q14 (Int32.toInt_inj.mp (by rw [e]; rfl))
      · exact q15 (Int32.toInt_inj.mp (by rw [e]; rfl))
      · exact q16 (Int32.toInt_inj.mp (by rw [e]; rfl))
      · exact q17 (Int32.toInt_inj.mp (by rw [e]; rfl))
      · exact q18 (Int32.toInt_inj.mp (by rw [e]; rfl))
      · exact q19 (Int32.toInt_inj.mp (by rw [e]; rfl))
      · exact q20 (Int32.toInt_inj.mp (by rw [e]; rfl))
      · exact q21 (Int32.toInt_inj.mp (by rw [e]; rfl))
      · exact q22 (Int32.toInt_inj.mp (by rw [e]; rfl))
      · exact q23 (Int32.toInt_inj.mp (by rw [e]; rfl))
      · exact q24 (Int32.toInt_inj.mp (by rw [e]; rfl))
      · exact q25 (Int32.toInt_inj.mp (by rw [e]; rfl))
      · exact q26 (Int32.toInt_inj.mp (by rw [e]; rfl))
      · exact q27 (Int32.toInt_inj.mp (by rw [e]; rfl))

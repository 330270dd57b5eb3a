/-! the law from its entry: the walk -/
theorem in_nwS : ∀ w ∈ nwS, w ∈ lw_tbl := by decide +kernel
theorem in_nwI : ∀ w ∈ nwI, w ∈ lw_tbl := by decide +kernel
theorem in_instX0 : Cond.instantiable RX0 0 ∈ lw_tbl := by decide +kernel
theorem in_instX1 : Cond.instantiable RX1 0 ∈ lw_tbl := by decide +kernel
theorem in_instX2 : Cond.instantiable RX2 12 ∈ lw_tbl := by decide +kernel
theorem in_instX3 : Cond.instantiable RX3 12 ∈ lw_tbl := by decide +kernel
theorem in_instX4 : Cond.instantiable RX4 0 ∈ lw_tbl := by decide +kernel
theorem in_instX5 : Cond.instantiable RX5 0 ∈ lw_tbl := by decide +kernel
theorem in_instX6 : Cond.instantiable RX6 6 ∈ lw_tbl := by decide +kernel
theorem in_instX7 : Cond.instantiable RX7 7 ∈ lw_tbl := by decide +kernel
theorem in_instX8 : Cond.instantiable RX8 5 ∈ lw_tbl := by decide +kernel
theorem in_instX9 : Cond.instantiable RX9 0 ∈ lw_tbl := by decide +kernel
theorem in_instX10 : Cond.instantiable RX10 0 ∈ lw_tbl := by decide +kernel
theorem in_instX11 : Cond.instantiable RX11 17 ∈ lw_tbl := by decide +kernel
theorem in_instX12 : Cond.instantiable RX12 36 ∈ lw_tbl := by decide +kernel
theorem in_arr_int : Cond.arrayClass .int ∈ lw_tbl := by decide +kernel
theorem in_arr_boolean : Cond.arrayClass .boolean ∈ lw_tbl := by decide +kernel
theorem in_arr_char : Cond.arrayClass .char ∈ lw_tbl := by decide +kernel
theorem nwP_S {args : Array Value} {s : State} (hts : ∀ w ∈ lw_tbl, w.before args s = true) : nwP nwS s := by
  have a1 : ∀ w ∈ nwS, (∃ (a : String) (i : Nat) (b n d h : String), w = Cond.fieldLinkNest a i b n d h) ∨ (∃ (a : String) (i : Nat) (x : MethodName) (h : String), w = Cond.methodLinkNest a i x h) ∨ (∃ C E : String, w = Cond.castable C E) ∨ ∃ C : String, w = Cond.arrayOver (.object C) := by
    intro w hw
    simp only [nwS, List.mem_cons, List.not_mem_nil, or_false] at hw
    rcases hw with rfl | rfl | rfl | rfl | rfl | rfl | rfl | rfl | rfl | rfl | rfl
    · exact Or.inl ⟨_, _, _, _, _, _, rfl⟩
    · exact Or.inl ⟨_, _, _, _, _, _, rfl⟩
    · exact Or.inl ⟨_, _, _, _, _, _, rfl⟩
    · exact Or.inl ⟨_, _, _, _, _, _, rfl⟩
    · exact Or.inl ⟨_, _, _, _, _, _, rfl⟩
    · exact Or.inl ⟨_, _, _, _, _, _, rfl⟩
    · exact Or.inl ⟨_, _, _, _, _, _, rfl⟩
    · exact Or.inl ⟨_, _, _, _, _, _, rfl⟩
    · exact Or.inl ⟨_, _, _, _, _, _, rfl⟩
    · exact Or.inl ⟨_, _, _, _, _, _, rfl⟩
    · exact Or.inr (Or.inl ⟨_, _, _, _, rfl⟩)
  intro w hw
  have hb := hts w (in_nwS w hw)
  refine ⟨?_, a1 w hw⟩
  rcases a1 w hw with ⟨a, i, b, n, d, h, rfl⟩ | ⟨a, i, x, h, rfl⟩ | ⟨C, E, rfl⟩ | ⟨C, rfl⟩
  · exact va_Nw.of rfl hb
  · exact va_Nw.of rfl hb
  · exact va_Nw.of rfl hb
  · exact va_AO.of hb
theorem nwP_I {args : Array Value} {s : State} (hts : ∀ w ∈ lw_tbl, w.before args s = true) : nwP nwI s := by
  have a1 : ∀ w ∈ nwI, (∃ (a : String) (i : Nat) (b n d h : String), w = Cond.fieldLinkNest a i b n d h) ∨ (∃ (a : String) (i : Nat) (x : MethodName) (h : String), w = Cond.methodLinkNest a i x h) ∨ (∃ C E : String, w = Cond.castable C E) ∨ ∃ C : String, w = Cond.arrayOver (.object C) := by
    intro w hw
    simp only [nwI, List.mem_cons, List.not_mem_nil, or_false] at hw
    rcases hw with rfl | rfl | rfl | rfl | rfl | rfl | rfl | rfl | rfl | rfl | rfl | rfl | rfl | rfl | rfl | rfl | rfl | rfl | rfl | rfl | rfl | rfl | rfl | rfl
    · exact Or.inr (Or.inl ⟨_, _, _, _, rfl⟩)
    · exact Or.inr (Or.inl ⟨_, _, _, _, rfl⟩)
    · exact Or.inr (Or.inl ⟨_, _, _, _, rfl⟩)
    · exact Or.inr (Or.inl ⟨_, _, _, _, rfl⟩)
    · exact Or.inr (Or.inl ⟨_, _, _, _, rfl⟩)
    · exact Or.inr (Or.inl ⟨_, _, _, _, rfl⟩)
    · exact Or.inr (Or.inl ⟨_, _, _, _, rfl⟩)
    · exact Or.inr (Or.inl ⟨_, _, _, _, rfl⟩)
    · exact Or.inr (Or.inl ⟨_, _, _, _, rfl⟩)
    · exact Or.inr (Or.inl ⟨_, _, _, _, rfl⟩)
    · exact Or.inr (Or.inl ⟨_, _, _, _, rfl⟩)
    · exact Or.inr (Or.inl ⟨_, _, _, _, rfl⟩)
    · exact Or.inr (Or.inl ⟨_, _, _, _, rfl⟩)
    · exact Or.inr (Or.inl ⟨_, _, _, _, rfl⟩)
    · exact Or.inr (Or.inl ⟨_, _, _, _, rfl⟩)
    · exact Or.inr (Or.inl ⟨_, _, _, _, rfl⟩)
    · exact Or.inr (Or.inl ⟨_, _, _, _, rfl⟩)
    · exact Or.inr (Or.inr (Or.inl ⟨_, _, rfl⟩))
    · exact Or.inr (Or.inr (Or.inl ⟨_, _, rfl⟩))
    · exact Or.inr (Or.inr (Or.inl ⟨_, _, rfl⟩))
    · exact Or.inr (Or.inr (Or.inl ⟨_, _, rfl⟩))
    · exact Or.inr (Or.inr (Or.inl ⟨_, _, rfl⟩))
    · exact Or.inr (Or.inr (Or.inr ⟨_, rfl⟩))
    · exact Or.inr (Or.inr (Or.inr ⟨_, rfl⟩))
  intro w hw
  have hb := hts w (in_nwI w hw)
  refine ⟨?_, a1 w hw⟩
  rcases a1 w hw with ⟨a, i, b, n, d, h, rfl⟩ | ⟨a, i, x, h, rfl⟩ | ⟨C, E, rfl⟩ | ⟨C, rfl⟩
  · exact va_Nw.of rfl hb
  · exact va_Nw.of rfl hb
  · exact va_Nw.of rfl hb
  · exact va_AO.of hb
theorem adOf {l : va_W} {N : Nat} {ad : Nat → Nat} (h : l.map (fun q => q.1) = (List.range N).map ad) {k : Nat} (hk : k < N) : ∃ e, l[k]? = some (ad k, e) := by
  have h1 : (l.map (fun q => q.1))[k]? = some (ad k) := by rw [h]; simp [hk]
  rw [List.getElem?_map] at h1
  cases hl : l[k]? with
  | none => rw [hl] at h1; cases h1
  | some q => rw [hl] at h1; obtain ⟨a, e⟩ := q; cases h1; exact ⟨e, rfl⟩
/-- the array classes that the tables name -/
theorem arr_prim {args : Array Value} {s : State} {ty : FieldType} (hp : ∀ C, ty ≠ .object C) (h : (Cond.arrayClass ty).before args s = true) : ∃ cA, ArrOfT s cA ty ∧ va_RA s cA ty := by
  obtain ⟨cA, kA, comp, h1, h2, h3⟩ := Cond.arrayClass_spec h
  refine ⟨cA, fun n z => ⟨fun k h => (by cases h), kA, h2, comp, h3⟩, ?_⟩
  cases ty with
  | object C => exact absurd rfl (hp C)
  | _ => exact h1
theorem arr_ref {args : Array Value} {s : State} {C : String} (h : (Cond.arrayOver (.object C)).before args s = true) : ∃ cA, ArrOfT s cA (.object C) ∧ va_RA s cA (.object C) := by
  obtain ⟨comp, cA, kA, h1, -, h2, h3, h4⟩ := Cond.arrayOver_spec h
  exact ⟨cA, fun n z => ⟨fun k h => (by cases h), kA, h2, comp, h3⟩, kA, comp, h2, h3, h1, h4⟩
section LLP
variable {Γ : Cx} {cc : ByteArray} {own : String} {Ts : List Cond} {ret0 : Option FieldType} {pc : Nat} {lv : List (Nat × Value)} {st : List Value} {ws ws0 : va_W} {nc ns index : Nat}
theorem l_newH (K : KS Γ cc own Ts ret0) (hA : ∀ q : Nat, (x_s Γ).heap.size ≤ q → x_A Γ q) (ci : Nat) {C : String} {T : u_T} {N index : Nat} {fs : List Value} (ty0 : Nat → FieldType) (hty : ∀ k, k < N → parseFieldDescriptor (T k).2.2.1 = some (ty0 k)) (hin : ∀ w ∈ u_ws C T N, w ∈ Ts) (hc : (x_cl Γ)[ci]? = some (C, T, N)) (h1 : Cond.classLink own index C ∈ Ts) (h2 : Cond.instantiable C N ∈ Ts) (h3 : Cond.initialized C ∈ Ts) (hfs : ∀ j, j < N → defaultValue (ty0 j) = vp_V fs j) (hcs : nc + 1 ≤ (x_R Γ).cells) (hss : ns + N ≤ (x_R Γ).slots) (hdg : decode cc pc = .ok (.new index, 3))
    (kk : ∀ q : Nat, Wl Γ (pc + 3) lv (.ref q :: st) (ws ++ [(q, .inr (ci, fs))]) (nc + 1) (ns + N)) : Wl Γ pc lv st ws nc ns := by
  intro H locs ls hP hD hS hl
  exact va_new K.1 K.2.1 K.ts hin ty0 hty K.2.2.2.1 (K.ts _ h1) (K.ts _ h2) (K.ts _ h3) K.vk hP hD hS hA hc hfs hcs hss hdg (fun q H1 hP1 hD1 hS1 => kk q H1 locs ls hP1 hD1 hS1 hl)
theorem l_initP (K : KS Γ cc own Ts ret0) (hA0 : ∀ q : Nat, (x_s Γ).heap.size ≤ q → x_A Γ q) {y : MethodName} {ws1 : List Cond} {fr lo mc ms maxL q : Nat} {bytes : ByteArray} {e0 : va_E} {w1 : (Nat → Nat) → va_W} (hM : ∀ sz, CI (x_l Γ) y ws1 fr lo mc ms (x_D Γ) (x_cl Γ) (x_ty Γ) (x_nw Γ) q sz e0 w1)
    (cw : CallB (x_R Γ) (x_s Γ) (x_args Γ) own index y bytes maxL none ws1 { frames := fr, cells := mc, slots := ms, locals := lo } mc ms 0 ∧ y.name = "<init>" ∧ (Cond.instanceMethod y).before (x_args Γ) (x_s Γ) = true) (hst : (st.map fun v => v.category).sum ≤ 8) (hf : nc + mc ≤ (x_R Γ).cells ∧ ns + ms ≤ (x_R Γ).slots) (hdg : decode cc pc = .ok (.invokespecial index, 3))
    (kk : ∀ u : Nat → Nat, Wl Γ (pc + 3) lv st (ws0 ++ w1 u) (nc + mc) (ns + ms)) : Wl Γ pc lv (.ref q :: st) (ws0 ++ [(q, e0)]) nc ns := by
  intro H locs ls hP hD hS hl
  have hPc : va_P (x_D Γ) (x_cl Γ) [(q, e0)] H := fun k z hz => by
    have h1 := (List.getElem?_eq_some_iff.mp hz).1
    simp only [List.length_singleton] at h1
    have h0 : k = 0 := by omega
    subst h0
    exact hP ws0.length z (by simpa using hz)
  have hA : ∀ z, va_A [(q, e0)] H.size z → x_A Γ z := fun z hz => by
    rcases hz with ⟨j, e, h⟩ | h
    · have hj := (List.getElem?_eq_some_iff.mp h).1
      simp only [List.length_singleton] at hj
      have hj0 : j = 0 := by omega
      subst hj0
      simp at h
      rw [← h.1]
      exact hD.2 ws0.length (q, e0) (by simp)
    · exact hA0 z (Nat.le_trans hS.1 h)
  refine va_callv (va_runI (As := []) (rest := st) (b := q) ⟨K.1, K.2.1, K.2.2.1, K.2.2.2.1, K.ts⟩ (hM H.size) cw ⟨c_I_blind, fun U hU hW => ⟨rfl, by rw [hU], by rw [hU]; exact hPc, va_K.moved hW.alike K.vk, K.nw.warm hW⟩⟩ rfl rfl hl.1 rfl (lv_room hst) hdg hf) hS (fun z _ h => hA z h) hA (fun u t H1 locs1 ht hvm hw hB hz1 hk1 hS1 => ?_)
  rw [ht] at hB
  obtain ⟨hP2, hD2⟩ := l_frame hP hD hA hk1 hB.1 hB.2
  exact kk u H1 locs1 ls hP2 hD2 hS1 hl
end LLP

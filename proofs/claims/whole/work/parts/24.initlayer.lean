/-! constructors: a world is a list of cells, its first the object that is made -/
def Wl (Γ : Cx) (pc : Nat) (lv : List (Nat × Value)) (st : List Value) (ws : va_W) (nc ns : Nat) : Prop :=
  ∀ (H : Heap) (locs : List Loc) (ls : Array Slot), va_P (x_D Γ) (x_cl Γ) ws H → va_D (x_A Γ) ws → va_S (x_A Γ) (x_s Γ).heap H locs → lv_has ls (x_n Γ) lv → W (x_p Γ) (x_l Γ) (x_e Γ) (x_R Γ) (x_s Γ) (x_m Γ) (x_args Γ) (x_below Γ) (x_meth Γ) (x_c Γ) H locs nc ns (x_Q Γ) (F0 (x_m Γ) pc ls st)
/-- what a constructor's walk has beside KS: new cells may be written; it is a constructor -/
def KI (Γ : Cx) : Prop := (∀ q : Nat, (x_s Γ).heap.size ≤ q → x_A Γ q) ∧ (x_meth Γ).name = "<init>"
section LLL
variable {Γ : Cx} {cc : ByteArray} {own : String} {Ts : List Cond} {ret : Option FieldType} {pc : Nat} {lv lv' : List (Nat × Value)} {st : List Value} {ws : va_W} {x y : Int32} {i k tgt nc ns : Nat} {off : Int}
theorem l_iconst (K : KS Γ cc own Ts ret) {n : Int} (hdg : decode cc pc = .ok (.iconst n, 1)) (hv : Int32.ofInt n = x) (kk : Wl Γ (pc + 1) lv (.int x :: st) ws nc ns) : Wl Γ pc lv st ws nc ns := fun H locs ls hP hD hS hl => lv_iconst K.1 K.2.1 hdg hv (kk H locs ls hP hD hS hl)
theorem l_bipush (K : KS Γ cc own Ts ret) {n : Int} (hdg : decode cc pc = .ok (.bipush n, 2)) (hv : (Int8.ofInt n).toInt32 = x) (kk : Wl Γ (pc + 2) lv (.int x :: st) ws nc ns) : Wl Γ pc lv st ws nc ns := fun H locs ls hP hD hS hl => lv_bipush K.1 K.2.1 hdg hv (kk H locs ls hP hD hS hl)
theorem l_sipush (K : KS Γ cc own Ts ret) {n : Int} (hdg : decode cc pc = .ok (.sipush n, 3)) (hv : (Int16.ofInt n).toInt32 = x) (kk : Wl Γ (pc + 3) lv (.int x :: st) ws nc ns) : Wl Γ pc lv st ws nc ns := fun H locs ls hP hD hS hl => lv_sipush K.1 K.2.1 hdg hv (kk H locs ls hP hD hS hl)
theorem l_aload_n (K : KS Γ cc own Ts ret) {f : Fin 4} {a : Nat} (hdg : decode cc pc = .ok (.aload_n f, 1)) (k : Nat) (hk : lv[k]? = some ((f : Nat), .ref a)) (kk : Wl Γ (pc + 1) lv (.ref a :: st) ws nc ns) : Wl Γ pc lv st ws nc ns := fun H locs ls hP hD hS hl => lv_aload_n K.1 K.2.1 hdg rfl (lv_at hl k hk) (kk H locs ls hP hD hS hl)
theorem l_iload_n (K : KS Γ cc own Ts ret) {f : Fin 4} (hdg : decode cc pc = .ok (.iload_n f, 1)) (k : Nat) (hk : lv[k]? = some ((f : Nat), .int x)) (kk : Wl Γ (pc + 1) lv (.int x :: st) ws nc ns) : Wl Γ pc lv st ws nc ns := fun H locs ls hP hD hS hl => lv_iload_n K.1 K.2.1 hdg rfl (lv_at hl k hk) (kk H locs ls hP hD hS hl)
theorem l_istore_n (K : KS Γ cc own Ts ret) {f : Fin 4} (hdg : decode cc pc = .ok (.istore_n f, 1)) (hn : (f : Nat) < x_n Γ) (hl' : ((f : Nat), Value.int x) :: lv.filter (fun q => !(q.1 == (f : Nat)) && !(q.1 + 1 == (f : Nat) && q.2.category == 2)) = lv') (kk : Wl Γ (pc + 1) lv' st ws nc ns) : Wl Γ pc lv (.int x :: st) ws nc ns := fun H locs ls hP hD hS hl => lv_istore_n K.1 K.2.1 hdg rfl hl hn hl' (fun ls hl => kk H locs ls hP hD hS hl)
theorem l_astore_n (K : KS Γ cc own Ts ret) {f : Fin 4} {a : Nat} (hdg : decode cc pc = .ok (.astore_n f, 1)) (hn : (f : Nat) < x_n Γ) (hl' : ((f : Nat), Value.ref a) :: lv.filter (fun q => !(q.1 == (f : Nat)) && !(q.1 + 1 == (f : Nat) && q.2.category == 2)) = lv') (kk : Wl Γ (pc + 1) lv' st ws nc ns) : Wl Γ pc lv (.ref a :: st) ws nc ns := fun H locs ls hP hD hS hl => lv_astore_n K.1 K.2.1 hdg rfl hl hn hl' (fun ls hl => kk H locs ls hP hD hS hl)
theorem l_iinc (K : KS Γ cc own Ts ret) {n : Int} {v : Int32} (hdg : decode cc pc = .ok (.iinc i n, 3)) (k : Nat) (hk : lv[k]? = some (i, .int x)) (hv : x + Int32.ofInt n = v) (hn : i < x_n Γ) (hl' : (i, Value.int v) :: lv.filter (fun q => !(q.1 == i) && !(q.1 + 1 == i && q.2.category == 2)) = lv') (kk : Wl Γ (pc + 3) lv' st ws nc ns) : Wl Γ pc lv st ws nc ns := fun H locs ls hP hD hS hl => lv_iinc K.1 K.2.1 hdg hl hk hv hn hl' (fun ls hl => kk H locs ls hP hD hS hl)
theorem l_dup (K : KS Γ cc own Ts ret) {v : Value} (hdg : decode cc pc = .ok (.dup, 1)) (hv : v.category = 1) (kk : Wl Γ (pc + 1) lv (v :: v :: st) ws nc ns) : Wl Γ pc lv (v :: st) ws nc ns := fun H locs ls hP hD hS hl => lv_dup K.1 K.2.1 hdg hv (kk H locs ls hP hD hS hl)
theorem l_goto (K : KS Γ cc own Ts ret) (hdg : decode cc pc = .ok (.goto off, 3)) (ht : (pc : Int) + off = (tgt : Int)) (kk : Wl Γ tgt lv st ws nc ns) : Wl Γ pc lv st ws nc ns := fun H locs ls hP hD hS hl => lv_goto K.1 K.2.1 hdg ht (kk H locs ls hP hD hS hl)
theorem l_icmp_ge_t (K : KS Γ cc own Ts ret) (hdg : decode cc pc = .ok (.if_icmp .ge off, 3)) (ht : (pc : Int) + off = (tgt : Int)) (hc : y ≤ x) (kk : Wl Γ tgt lv st ws nc ns) : Wl Γ pc lv (.int y :: .int x :: st) ws nc ns := fun H locs ls hP hD hS hl => lv_icmp_ge K.1 K.2.1 hdg ht (fun _ => kk H locs ls hP hD hS hl) (fun h => absurd hc h)
theorem l_icmp_ge_f (K : KS Γ cc own Ts ret) (hdg : decode cc pc = .ok (.if_icmp .ge off, 3)) (ht : (pc : Int) + off = (tgt : Int)) (hc : ¬ y ≤ x) (kk : Wl Γ (pc + 3) lv st ws nc ns) : Wl Γ pc lv (.int y :: .int x :: st) ws nc ns := fun H locs ls hP hD hS hl => lv_icmp_ge K.1 K.2.1 hdg ht (fun h => absurd h hc) (fun _ => kk H locs ls hP hD hS hl)
theorem l_obj (K : KS Γ cc own Ts ret) {a idx : Nat} (h1 : Cond.methodLink own idx objectInit ∈ Ts) (h2 : Cond.instanceMethod objectInit ∈ Ts) (h3 : Cond.code objectInit ⟨#[0xb1]⟩ 1 none ∈ Ts) (hst : st = []) (hr : 1 ≤ (x_R Γ).frames ∧ 12 ≤ (x_R Γ).locals) (hdg : decode cc pc = .ok (.invokespecial idx, 3)) (kk : Wl Γ (pc + 3) lv st ws nc ns) : Wl Γ pc lv (.ref a :: st) ws nc ns := by
  subst hst
  intro H locs ls hP hD hS hl
  refine W.objInit K.1 K.2.1 K.2.2.2.1 (K.ts _ h1) (K.ts _ h2) (K.ts _ h3) rfl (by rw [K.2.2.1]; exact hl.1) rfl hdg hr.1 hr.2 ?_
  exact kk H locs ls hP hD hS hl
/-- a row of numbers is made -/
theorem l_newa (K : KS Γ cc own Ts ret) (I : KI Γ) {atype : ArrayType} {ty : FieldType} {cA : ClassId} (t0 : Nat) (harr : Cond.arrayClass (newarray.typeOf atype) ∈ Ts) (hty : newarray.typeOf atype = ty) (hd : defaultValue ty = .int 0) (hprim : ∀ C, ty ≠ .object C) (ht : (x_ty Γ)[t0]? = some (cA, ty)) {N' : Nat} (hn : ¬ x < 0) (hN : x.toNatClampNeg = N') (hby : N' * componentBytes ty ≤ 536870912) (hc : nc + 1 ≤ (x_R Γ).cells) (hs : ns + N' ≤ (x_R Γ).slots) (hdg : decode cc pc = .ok (.newarray atype, 2))
    (kk : ∀ q : Nat, Wl Γ (pc + 2) lv (.ref q :: st) (ws ++ [(q, .inl (cA, N', .inl (fun _ => 0)))]) (nc + 1) (ns + N')) : Wl Γ pc lv (.int x :: st) ws nc ns := by
  intro H locs ls hP hD hS hl
  refine va_newa (a0 := (N', .inl (fun _ => 0))) K.1 K.2.1 (K.ts _ harr) hty K.vk hP hD hS I.1 (fun cB => by rw [hd]; rfl) hn hN hby hc hs hdg (fun q cB H1 hK1 hP1 hD1 hS1 => ?_)
  have e1 := (K.vk.2 t0 _ ht).2
  have e2 := (hK1.2 (x_ty Γ).length (cB, ty) (by simp)).2
  have e : cB = cA := by
    cases ty with
    | object C => exact absurd rfl (hprim C)
    | _ =>
      have e1 : (x_s Γ).vm.findClass _ = some cA := e1
      have e2 : (x_s Γ).vm.findClass _ = some cB := e2
      rw [e1] at e2
      exact (Option.some.inj e2).symm
  subst e
  exact kk q H1 locs ls hP1 hD1 hS1 hl
/-- a final field of the object that is made -/
theorem l_putF (K : KS Γ cc own Ts ret) (I : KI Γ) (ci k : Nat) {a : Nat} {C : String} {T : u_T} {N index : Nat} {fs : List Value} {v : Value} {ty : FieldType} (ty0 : Nat → FieldType) (hty : ∀ k, k < N → parseFieldDescriptor (T k).2.2.1 = some (ty0 k)) (hnm : ∀ a, a < N → ∀ b, b < N → a ≠ b → (T a).2.1 ≠ (T b).2.1) (hin : ∀ w ∈ u_ws C T N, w ∈ Ts) (hc : (x_cl Γ)[ci]? = some (C, T, N)) (hk : k < N) (hlink : Cond.fieldLink own index (T k).1 (T k).2.1 (T k).2.2.1 ∈ Ts) (hfin : (T k).2.2.2 = true) (hdecl : (T k).1 = own) (hd : parseFieldDescriptor (T k).2.2.1 = some ty) (hn : narrow ty v = v) (hfit : fits ty v = true) (hl0 : k < fs.length) (hdg : decode cc pc = .ok (.putfield index, 3))
    (kk : Wl Γ (pc + 3) lv st ((a, .inr (ci, fs.set k v)) :: ws) nc ns) : Wl Γ pc lv (v :: .ref a :: st) ((a, .inr (ci, fs)) :: ws) nc ns := by
  intro H locs ls hP hD hS hl
  exact va_putF K.1 K.2.1 K.ts hin ty0 hty hnm K.2.2.2.1 K.vk hP hD hS 0 rfl hc k hk (K.ts _ hlink) (fun _ h => h) hfin I.2 hdecl hd hn hfit hl0 hdg (fun H1 locs1 hP1 hD1 hS1 => kk H1 locs1 ls hP1 hD1 hS1 hl)
theorem l_put (K : KS Γ cc own Ts ret) (ci k : Nat) {a : Nat} {C : String} {T : u_T} {N index : Nat} {fs : List Value} {v : Value} {ty : FieldType} (ty0 : Nat → FieldType) (hty : ∀ k, k < N → parseFieldDescriptor (T k).2.2.1 = some (ty0 k)) (hnm : ∀ a, a < N → ∀ b, b < N → a ≠ b → (T a).2.1 ≠ (T b).2.1) (hin : ∀ w ∈ u_ws C T N, w ∈ Ts) (hc : (x_cl Γ)[ci]? = some (C, T, N)) (hk : k < N) (hlink : Cond.fieldLink own index (T k).1 (T k).2.1 (T k).2.2.1 ∈ Ts) (hfin : (T k).2.2.2 = false) (hd : parseFieldDescriptor (T k).2.2.1 = some ty) (hn : narrow ty v = v) (hfit : fits ty v = true) (hl0 : k < fs.length) (hdg : decode cc pc = .ok (.putfield index, 3))
    (kk : Wl Γ (pc + 3) lv st ((a, .inr (ci, fs.set k v)) :: ws) nc ns) : Wl Γ pc lv (v :: .ref a :: st) ((a, .inr (ci, fs)) :: ws) nc ns := by
  intro H locs ls hP hD hS hl
  exact va_put K.1 K.2.1 K.ts hin ty0 hty hnm K.2.2.2.1 K.vk hP hD hS 0 rfl hc k hk (K.ts _ hlink) (fun _ h => h) hfin hd hn hfit hl0 hdg (fun H1 locs1 hP1 hD1 hS1 => kk H1 locs1 ls hP1 hD1 hS1 hl)
/-- a field of the object that is made is read -/
theorem l_get (K : KS Γ cc own Ts ret) (ci k : Nat) {a : Nat} {C : String} {T : u_T} {N index : Nat} {fs : List Value} {v : Value} (hin : ∀ w ∈ u_ws C T N, w ∈ Ts) (hc : (x_cl Γ)[ci]? = some (C, T, N)) (hk : k < N) (hlink : Cond.fieldLink own index (T k).1 (T k).2.1 (T k).2.2.1 ∈ Ts) (hv : fs[k]? = some v) (hdg : decode cc pc = .ok (.getfield index, 3))
    (kk : Wl Γ (pc + 3) lv (v :: st) ((a, .inr (ci, fs)) :: ws) nc ns) : Wl Γ pc lv (.ref a :: st) ((a, .inr (ci, fs)) :: ws) nc ns := by
  intro H locs ls hP hD hS hl
  exact va_get K.1 K.2.1 K.ts hin K.2.2.2.1 K.vk hP 0 rfl hc k hk (K.ts _ hlink) (fun _ h => h) hv hdg (kk H locs ls hP hD hS hl)
/-- an object is made -/
theorem l_new (K : KS Γ cc own Ts ret) (I : KI Γ) (ci : Nat) {C : String} {T : u_T} {N index : Nat} {fs : List Value} (ty0 : Nat → FieldType) (hty : ∀ k, k < N → parseFieldDescriptor (T k).2.2.1 = some (ty0 k)) (hin : ∀ w ∈ u_ws C T N, w ∈ Ts) (hc : (x_cl Γ)[ci]? = some (C, T, N)) (h1 : Cond.classLink own index C ∈ Ts) (h2 : Cond.instantiable C N ∈ Ts) (h3 : Cond.initialized C ∈ Ts) (hfs : ∀ j, j < N → defaultValue (ty0 j) = vp_V fs j) (hcs : nc + 1 ≤ (x_R Γ).cells) (hss : ns + N ≤ (x_R Γ).slots) (hdg : decode cc pc = .ok (.new index, 3))
    (kk : ∀ q : Nat, Wl Γ (pc + 3) lv (.ref q :: st) (ws ++ [(q, .inr (ci, fs))]) (nc + 1) (ns + N)) : Wl Γ pc lv st ws nc ns := by
  intro H locs ls hP hD hS hl
  exact va_new K.1 K.2.1 K.ts hin ty0 hty K.2.2.2.1 (K.ts _ h1) (K.ts _ h2) (K.ts _ h3) K.vk hP hD hS I.1 hc hfs hcs hss hdg (fun q H1 hP1 hD1 hS1 => kk q H1 locs ls hP1 hD1 hS1 hl)
end LLL
/-- a constructor's contract: from the one cell e0 at h0 the world w1 of the new addresses u -/
def c_I (D : va_G) (cl : List vw_C) (tys : List (ClassId × FieldType)) (nw : List Cond) (h0 sz : Nat) (e0 : va_E) : Array Value → State → Prop := va_Pc [.ref h0] (fun U => U.heap.size = sz ∧ va_P D cl [(h0, e0)] U.heap ∧ va_K D cl tys U ∧ nwP nw U)
def CI (l : Launch) (y : MethodName) (ws : List Cond) (fr lo nc ns : Nat) (D : va_G) (cl : List vw_C) (tys : List (ClassId × FieldType)) (nw : List Cond) (h0 sz : Nat) (e0 : va_E) (w1 : (Nat → Nat) → va_W) : Prop :=
  Met l y ws { frames := fr, cells := nc, slots := ns, locals := lo } (c_I D cl tys nw h0 sz e0) (va_Qv (fun _ : Nat → Nat => True) (fun u t => va_P D cl (w1 u) t.heap ∧ va_D (va_A [(h0, e0)] sz) (w1 u)) (va_A [(h0, e0)] sz)) nc ns (va_A [(h0, e0)] sz)
/-- the context of a constructor -/
abbrev Gi (l : Launch) (rm : Room) (D : va_G) (cl : List vw_C) (tys : List (ClassId × FieldType)) (nw : List Cond) (a : Program × Env × State × MethodId) (b : Array Value × List Frame × Method × Code × (State → Prop) × Nat) (A : Nat → Prop) : Cx := ((a.1, l, a.2.1, rm, a.2.2.1, a.2.2.2), b, (D, cl, tys, nw), (fun _ _ => .inr (0, []), fun _ => 0, 0, A))
/-- its end -/
def HRc (Γ : Cx) (cc : ByteArray) (w1 : (Nat → Nat) → va_W) (nc ns : Nat) : Prop := ∀ (pc : Nat) (lv : List (Nat × Value)) (u : Nat → Nat), decode cc pc = .ok (.return_, 1) → Wl Γ pc lv [] (w1 u) nc ns
theorem c_init {l : Launch} {y : MethodName} {ws ws' : List Cond} {fr lo nc ns : Nat} {D : va_G} {cl : List vw_C} {tys : List (ClassId × FieldType)} {nw : List Cond} {h0 sz : Nat} {e0 : va_E} {w1 : (Nat → Nat) → va_W} {cc : ByteArray} {maxL : Nat} (hy : plainName y.cls = true) (hni : y.name = "<init>") (hw : ws = Cond.code y cc maxL none :: ws') (hn : (lg_sl [Value.ref h0]).length ≤ maxL)
    (body : ∀ (a : Program × Env × State × MethodId) (b : Array Value × List Frame × Method × Code × (State → Prop) × Nat) (A : Nat → Prop), b.2.2.2.2.2 = maxL → KS (Gi l { frames := fr, cells := nc, slots := ns, locals := lo } D cl tys nw a b A) cc y.cls ws none → KI (Gi l { frames := fr, cells := nc, slots := ns, locals := lo } D cl tys nw a b A) → HRc (Gi l { frames := fr, cells := nc, slots := ns, locals := lo } D cl tys nw a b A) cc w1 nc ns → Wl (Gi l { frames := fr, cells := nc, slots := ns, locals := lo } D cl tys nw a b A) 0 [(0, .ref h0)] [] [(h0, e0)] 0 0) :
    CI l y ws fr lo nc ns D cl tys nw h0 sz e0 w1 := by
  refine Met.ofW (cc := cc) (maxL := maxL) (ret := none) hy hw ?_
  intro p e s m args below meth c s₁ B hml hv
  obtain ⟨rfl, hsz, hP, hK, hNw⟩ := hv
  have hts := atoms_spec (ws := ws) B.pre
  have hown : s.vm.findClass y.cls = some m.cls := findClass_of_methodNamed B.named
  have hin : meth.name = "<init>" := by rw [(name_of_methodNamed B.named B.method).1]; exact hni
  have hl := lv_entry [Value.ref h0] (n := maxL) hn
  rw [lg_entry_eq]
  subst hsz
  have hD : va_D (va_A [(h0, e0)] s.heap.size) [(h0, e0)] := by
    refine ⟨fun i j p q hi hj _ => ?_, fun k q hk => va_A.in hk⟩
    have h1 := (List.getElem?_eq_some_iff.mp hi).1
    have h2 := (List.getElem?_eq_some_iff.mp hj).1
    simp only [List.length_singleton] at h1 h2
    omega
  have K : KS (Gi l { frames := fr, cells := nc, slots := ns, locals := lo } D cl tys nw (p, e, s, m) ([Value.ref h0].toArray, below, meth, c, MQ below (va_Qv (fun _ : Nat → Nat => True) (fun u t => va_P D cl (w1 u) t.heap ∧ va_D (va_A [(h0, e0)] s.heap.size) (w1 u)) (va_A [(h0, e0)] s.heap.size)) [Value.ref h0].toArray s nc ns (va_A [(h0, e0)] s.heap.size), maxL) (va_A [(h0, e0)] s.heap.size)) cc y.cls ws none := ⟨B.exec, B.bytes, hml, hown, hts, B.returns, B.notSynchronized, ⟨hK, hNw⟩, fun i j hi _ _ => absurd hi (Nat.not_lt_zero i), fun i hi => absurd hi (Nat.not_lt_zero i)⟩
  refine body (p, e, s, m) ([Value.ref h0].toArray, below, meth, c, _, maxL) (va_A [(h0, e0)] s.heap.size) rfl K ⟨fun q hq => Or.inr hq, hin⟩ ?_ s.heap [] _ hP hD va_S.rf hl
  intro pc lv u hdg H locs ls hP1 hD1 hS1 hl1
  exact W.vret (Qc := va_Qv (fun _ : Nat → Nat => True) (fun u t => va_P D cl (w1 u) t.heap ∧ va_D (va_A [(h0, e0)] s.heap.size) (w1 u)) (va_A [(h0, e0)] s.heap.size)) B.exec B.bytes B.returns (fun t ht _ => ⟨⟨u, rfl, trivial, (show va_P D cl (w1 u) t.heap ∧ va_D (va_A [(h0, e0)] s.heap.size) (w1 u) from ⟨by rw [ht]; exact hP1, hD1⟩)⟩, hS1.F ht⟩) hS1.2.2 hdg B.notSynchronized
theorem c_I_blind {D : va_G} {cl : List vw_C} {tys : List (ClassId × FieldType)} {nw : List Cond} {h0 sz : Nat} {e0 : va_E} : FrameBlind (c_I D cl tys nw h0 sz e0) := fun a U g mk q => by
  obtain ⟨q0, qz, qP, qK, qN⟩ := q
  exact ⟨q0, qz, qP, va_K.moved (u := U) (U := U.calling g mk a) (Vm.Alike.refl U.vm) qK, nwP.same (s := U) (U := U.calling g mk a) rfl qN⟩
/-- behind a constructor: the world before, and the new object's -/
theorem l_frame {D : va_G} {cl : List vw_C} {A : Nat → Prop} {ws w1 : va_W} {q : Nat} {e0 : va_E} {H H1 : Heap} (hP : va_P D cl (ws ++ [(q, e0)]) H) (hD : va_D A (ws ++ [(q, e0)])) (hA : ∀ x, va_A [(q, e0)] H.size x → A x) (hk : ∀ x : Nat, x < H.size → ¬ va_A [(q, e0)] H.size x → H1[x]? = H[x]?) (hP1 : va_P D cl w1 H1) (hD1 : va_D (va_A [(q, e0)] H.size) w1) : va_P D cl (ws ++ w1) H1 ∧ va_D A (ws ++ w1) := by
  have key : ∀ (k : Nat) (z : Nat × va_E), ws[k]? = some z → z.1 < H.size ∧ z.1 ≠ q := by
    intro k z hz
    have hlt := (List.getElem?_eq_some_iff.mp hz).1
    have h1 : (ws ++ [(q, e0)])[k]? = some z := by rw [List.getElem?_append_left hlt]; exact hz
    have h2 : (ws ++ [(q, e0)])[ws.length]? = some (q, e0) := by simp
    refine ⟨(hP k z h1).lt, fun e => ?_⟩
    have := hD.1 k ws.length z (q, e0) h1 h2 e
    omega
  have out : ∀ (k : Nat) (z : Nat × va_E), ws[k]? = some z → ¬ va_A [(q, e0)] H.size z.1 := by
    intro k z hz h
    obtain ⟨h1, h2⟩ := key k z hz
    rcases h with ⟨j, e, h⟩ | h
    · have hj := (List.getElem?_eq_some_iff.mp h).1
      simp only [List.length_singleton] at hj
      have hj0 : j = 0 := by omega
      subst hj0
      simp at h
      exact h2 h.1.symm
    · omega
  refine ⟨va_P.app (fun k z hz => ?_) hP1, va_D.app ?_ (hD1.weaken (fun _ _ _ h => hA _ h)) (fun i j p r hp hr e => ?_)⟩
  · have hlt := (List.getElem?_eq_some_iff.mp hz).1
    exact (hP k z (by rw [List.getElem?_append_left hlt]; exact hz)).kept (hk _ (key k z hz).1 (out k z hz))
  · refine ⟨fun i j p r hi hj e => ?_, fun k z hz => ?_⟩
    · have h1 := (List.getElem?_eq_some_iff.mp hi).1
      have h2 := (List.getElem?_eq_some_iff.mp hj).1
      exact hD.1 i j p r (by rw [List.getElem?_append_left h1]; exact hi) (by rw [List.getElem?_append_left h2]; exact hj) e
    · have h1 := (List.getElem?_eq_some_iff.mp hz).1
      exact hD.2 k z (by rw [List.getElem?_append_left h1]; exact hz)
  · exact out i p hp (e ▸ hD1.2 j r hr)
section LL2
variable {Γ : Cx} {cc : ByteArray} {own : String} {Ts : List Cond} {ret : Option FieldType} {pc : Nat} {lv : List (Nat × Value)} {st : List Value} {ws0 : va_W} {nc ns index : Nat}
/-- a constructor of the nest is called on the cell that was made last -/
theorem l_initN (K : KS Γ cc own Ts ret) (I : KI Γ) {y : MethodName} {ws : List Cond} {fr lo mc ms maxL q : Nat} {bytes : ByteArray} {host : String} {e0 : va_E} {w1 : (Nat → Nat) → va_W} (hM : ∀ sz, CI (x_l Γ) y ws fr lo mc ms (x_D Γ) (x_cl Γ) (x_ty Γ) (x_nw Γ) q sz e0 w1)
    (cw : va_CN (x_R Γ) (x_s Γ) (x_args Γ) own index y host bytes maxL none ws { frames := fr, cells := mc, slots := ms, locals := lo } mc ms 0 ∧ y.name = "<init>" ∧ (Cond.instanceMethod y).before (x_args Γ) (x_s Γ) = true) (hst : (st.map fun v => v.category).sum ≤ 8) (hf : nc + mc ≤ (x_R Γ).cells ∧ ns + ms ≤ (x_R Γ).slots) (hdg : decode cc pc = .ok (.invokespecial index, 3))
    (kk : ∀ u : Nat → Nat, Wl Γ (pc + 3) lv st (ws0 ++ w1 u) (nc + mc) (ns + ms)) : Wl Γ pc lv (.ref q :: st) (ws0 ++ [(q, e0)]) nc ns := by
  intro H locs ls hP hD hS hl
  have hPc : va_P (x_D Γ) (x_cl Γ) [(q, e0)] H := fun k z hz => by
    have h1 := (List.getElem?_eq_some_iff.mp hz).1
    simp only [List.length_singleton] at h1
    have h0 : k = 0 := by omega
    subst h0
    exact hP ws0.length z (by simpa using hz)
  have hA : ∀ z, va_A [(q, e0)] H.size z → x_A Γ z := fun z hz => by
    rcases hz with ⟨j, e, h⟩ | h
    · have hj := (List.getElem?_eq_some_iff.mp h).1
      simp only [List.length_singleton] at hj
      have hj0 : j = 0 := by omega
      subst hj0
      simp at h
      rw [← h.1]
      exact hD.2 ws0.length (q, e0) (by simp)
    · exact I.1 z (Nat.le_trans hS.1 h)
  refine va_callv (va_runIN (As := []) (rest := st) (b := q) ⟨K.1, K.2.1, K.2.2.1, K.2.2.2.1, K.ts⟩ (hM H.size) cw ⟨c_I_blind, fun U hU hW => ⟨rfl, by rw [hU], by rw [hU]; exact hPc, va_K.moved hW.alike K.vk, K.nw.warm hW⟩⟩ rfl rfl hl.1 rfl (lv_room hst) hdg hf) hS (fun z _ h => hA z h) hA (fun u t H1 locs1 ht hvm hw hB hz1 hk1 hS1 => ?_)
  rw [ht] at hB
  obtain ⟨hP2, hD2⟩ := l_frame hP hD hA hk1 hB.1 hB.2
  exact kk u H1 locs1 ls hP2 hD2 hS1 hl
/-- a row of references is made -/
theorem l_newq (K : KS Γ cc own Ts ret) (I : KI Γ) {x : Int32} {C : String} {cA : ClassId} (t0 : Nat) (ht : (x_ty Γ)[t0]? = some (cA, .object C)) (hcl : Cond.classLink own index C ∈ Ts) (hov : va_AO C (x_s Γ)) {N' : Nat} (hn : ¬ x < 0) (hN : x.toNatClampNeg = N') (hby : N' * 4 ≤ 536870912) (hc : nc + 1 ≤ (x_R Γ).cells) (hs : ns + N' ≤ (x_R Γ).slots) (hdg : decode cc pc = .ok (.anewarray index, 3))
    (kk : ∀ q : Nat, Wl Γ (pc + 3) lv (.ref q :: st) (ws0 ++ [(q, .inl (cA, N', .inr (.inr (.inr (.inr (fun _ => none))))))]) (nc + 1) (ns + N')) : Wl Γ pc lv (.int x :: st) ws0 nc ns := by
  intro H locs ls hP hD hS hl
  refine va_newq K.1 K.2.1 K.2.2.2.1 (K.ts _ hcl) hov K.vk hP hD hS I.1 hn hN hby hc hs hdg (fun q cB H1 hK1 hP1 hD1 hS1 => ?_)
  obtain ⟨kA, comp, -, -, -, e1⟩ := (K.vk.2 t0 _ ht).2
  obtain ⟨kB, comp2, -, -, -, e2⟩ := (hK1.2 (x_ty Γ).length (cB, .object C) (by simp)).2
  have e : cB = cA := by rw [e1] at e2; exact (Option.some.inj e2).symm
  subst e
  exact kk q H1 locs ls hP1 hD1 hS1 hl
end LL2

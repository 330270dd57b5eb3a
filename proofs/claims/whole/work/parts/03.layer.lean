/-! OUR LAYER: a state is a table of numbers (cell, slot); a walk's judgement 'Wk' holds for every heap that has the state -/
abbrev St : Type := Nat → Nat → Int32
/-- slot k of cell i becomes v -/
def s_up (σ : St) (i k : Nat) (v : Int32) : St := fun a j => if a = i then (if j = k then v else σ i j) else σ a j
/-- cell i becomes f -/
def s_row (σ : St) (i : Nat) (f : Nat → Int32) : St := fun a j => if a = i then f j else σ a j
abbrev Mk : Type := Nat → (Nat → Int32) → va_E
def w_d (mk : Mk) (ad : Nat → Nat) (N : Nat) (σ : St) : va_W := (List.range N).map (fun i => (ad i, mk i (σ i)))
theorem w_d_get {mk : Mk} {ad : Nat → Nat} {N : Nat} {σ : St} {i : Nat} (h : i < N) {e : va_E} (he : mk i (σ i) = e) : (w_d mk ad N σ)[i]? = some (ad i, e) := by
  rw [← he]; simp [w_d, h]
theorem s_row_self (σ : St) (i : Nat) (f : Nat → Int32) : s_row σ i f i = f := by funext j; simp [s_row]
theorem s_row_other (σ : St) {i a : Nat} (h : a ≠ i) (f : Nat → Int32) : s_row σ i f a = σ a := by funext j; simp [s_row, h]
theorem s_up_row (σ : St) (i k : Nat) (v : Int32) : s_up σ i k v = s_row σ i (upd (σ i) k v) := by
  funext a j
  by_cases h : a = i
  · subst h; simp [s_up, s_row, upd]
  · simp [s_up, s_row, h]
theorem w_d_set {mk : Mk} {ad : Nat → Nat} {N : Nat} {σ : St} {i : Nat} {f : Nat → Int32} {e : va_E} (he : e = mk i f) : (w_d mk ad N σ).set i (ad i, e) = w_d mk ad N (s_row σ i f) := by
  subst he
  apply List.ext_getElem?
  intro j
  by_cases hj : i = j
  · subst hj
    by_cases hN : i < N
    · simp [w_d, hN, s_row_self]
    · simp [w_d, hN]
  · rw [List.getElem?_set_ne hj]
    by_cases hN : j < N
    · simp [w_d, hN, s_row_other σ (fun h => hj h.symm)]
    · simp [w_d, hN]
theorem w_d_D {mk : Mk} {ad : Nat → Nat} {N : Nat} {A : Nat → Prop} (σ : St) (hd : ∀ i j, i < N → j < N → ad i = ad j → i = j) (ha : ∀ i, i < N → A (ad i)) : va_D A (w_d mk ad N σ) := by
  refine ⟨fun i j p q hi hj h => ?_, fun k q hk => ?_⟩
  · have h1 : i < N := by have := (List.getElem?_eq_some_iff.mp hi).1; simpa [w_d] using this
    have h2 : j < N := by have := (List.getElem?_eq_some_iff.mp hj).1; simpa [w_d] using this
    rw [w_d_get h1 rfl] at hi
    rw [w_d_get h2 rfl] at hj
    cases hi; cases hj
    exact hd i j h1 h2 h
  · have h1 : k < N := by have := (List.getElem?_eq_some_iff.mp hk).1; simpa [w_d] using this
    rw [w_d_get h1 rfl] at hk
    cases hk
    exact ha k h1
/-- the addresses of a world -/
def w_A (ad : Nat → Nat) (N : Nat) : Nat → Prop := fun q => ∃ i, i < N ∧ q = ad i
/-- what a walk's state stands on: program, launch, environment, room, start, method, arguments, frames below, method's record, code, goal, number of locals, tables, classes, array classes, cells, addresses, number of cells, what may change -/
abbrev Cx : Type := (Program × Launch × Env × Room × State × MethodId) × (Array Value × List Frame × Method × Code × (State → Prop) × Nat) × (va_G × List vw_C × List (ClassId × FieldType) × List Cond) × (Mk × (Nat → Nat) × Nat × (Nat → Prop))
abbrev x_p (Γ : Cx) : Program := Γ.1.1
abbrev x_l (Γ : Cx) : Launch := Γ.1.2.1
abbrev x_e (Γ : Cx) : Env := Γ.1.2.2.1
abbrev x_R (Γ : Cx) : Room := Γ.1.2.2.2.1
abbrev x_s (Γ : Cx) : State := Γ.1.2.2.2.2.1
abbrev x_m (Γ : Cx) : MethodId := Γ.1.2.2.2.2.2
abbrev x_args (Γ : Cx) : Array Value := Γ.2.1.1
abbrev x_below (Γ : Cx) : List Frame := Γ.2.1.2.1
abbrev x_meth (Γ : Cx) : Method := Γ.2.1.2.2.1
abbrev x_c (Γ : Cx) : Code := Γ.2.1.2.2.2.1
abbrev x_Q (Γ : Cx) : State → Prop := Γ.2.1.2.2.2.2.1
abbrev x_n (Γ : Cx) : Nat := Γ.2.1.2.2.2.2.2
abbrev x_D (Γ : Cx) : va_G := Γ.2.2.1.1
abbrev x_cl (Γ : Cx) : List vw_C := Γ.2.2.1.2.1
abbrev x_ty (Γ : Cx) : List (ClassId × FieldType) := Γ.2.2.1.2.2.1
abbrev x_nw (Γ : Cx) : List Cond := Γ.2.2.1.2.2.2
abbrev x_mk (Γ : Cx) : Mk := Γ.2.2.2.1
abbrev x_ad (Γ : Cx) : Nat → Nat := Γ.2.2.2.2.1
abbrev x_N (Γ : Cx) : Nat := Γ.2.2.2.2.2.1
abbrev x_A (Γ : Cx) : Nat → Prop := Γ.2.2.2.2.2.2
/-- words of the nest, which no list of words may hold -/
def nwP (nw : List Cond) (U : State) : Prop := ∀ w ∈ nw, va_Nw w U ∧ ((∃ (a : String) (i : Nat) (b n d h : String), w = Cond.fieldLinkNest a i b n d h) ∨ (∃ (a : String) (i : Nat) (x : MethodName) (h : String), w = Cond.methodLinkNest a i x h) ∨ (∃ C E : String, w = Cond.castable C E) ∨ ∃ C : String, w = Cond.arrayOver (.object C))
theorem nwP.warm {nw : List Cond} {s U : State} (hW : s.WarmedH U.vm) (h : nwP nw s) : nwP nw U := fun w hw => by
  obtain ⟨h1, h2⟩ := h w hw
  refine ⟨?_, h2⟩
  rcases h2 with ⟨a, i, b, n, d, hh, rfl⟩ | ⟨a, i, x, hh, rfl⟩ | ⟨C, E, rfl⟩ | ⟨C, rfl⟩
  · exact va_Nw.warmF hW h1
  · exact va_Nw.warmM hW h1
  · exact va_Nw.warmC hW h1
  · exact va_AO.moved hW.alike h1
theorem nwP.same {nw : List Cond} {s U : State} (hW : s.vm = U.vm) (h : nwP nw s) : nwP nw U := fun w hw => by
  obtain ⟨h1, h2⟩ := h w hw
  refine ⟨?_, h2⟩
  rcases h2 with ⟨a, i, b, n, d, hh, rfl⟩ | ⟨a, i, x, hh, rfl⟩ | ⟨C, E, rfl⟩ | ⟨C, rfl⟩
  · exact va_Nw.same rfl hW h1
  · exact va_Nw.same rfl hW h1
  · exact va_Nw.same rfl hW h1
  · exact va_AO.moved (by rw [hW]; exact Vm.Alike.refl _) h1
/-- what stays through a walk -/
def KS (Γ : Cx) (cc : ByteArray) (own : String) (Ts : List Cond) (ret : Option FieldType) : Prop :=
  (x_p Γ).tables.exec = Jvm.exec ∧ (x_c Γ).code = cc ∧ (x_c Γ).maxLocals = x_n Γ ∧ (x_s Γ).vm.findClass own = some (x_m Γ).cls ∧ (∀ w ∈ Ts, w.before (x_args Γ) (x_s Γ) = true) ∧ (x_meth Γ).sig.returnType = ret ∧ (x_meth Γ).locks = false ∧ (va_K (x_D Γ) (x_cl Γ) (x_ty Γ) (x_s Γ) ∧ nwP (x_nw Γ) (x_s Γ)) ∧ (∀ i j, i < x_N Γ → j < x_N Γ → x_ad Γ i = x_ad Γ j → i = j) ∧ (∀ i, i < x_N Γ → x_A Γ (x_ad Γ i))
/-- from the frame at pc with these locals, this stack, in any heap that has the state, the machine comes to the goal -/
def Wk (Γ : Cx) (pc : Nat) (lv : List (Nat × Value)) (st : List Value) (σ : St) : Prop :=
  ∀ (H : Heap) (locs : List Loc) (ls : Array Slot), va_P (x_D Γ) (x_cl Γ) (w_d (x_mk Γ) (x_ad Γ) (x_N Γ) σ) H → va_S (x_A Γ) (x_s Γ).heap H locs → lv_has ls (x_n Γ) lv → W (x_p Γ) (x_l Γ) (x_e Γ) (x_R Γ) (x_s Γ) (x_m Γ) (x_args Γ) (x_below Γ) (x_meth Γ) (x_c Γ) H locs 0 0 (x_Q Γ) (F0 (x_m Γ) pc ls st)
section KKK
variable {Γ : Cx} {cc : ByteArray} {own : String} {Ts : List Cond} {ret : Option FieldType} {pc : Nat} {lv lv' : List (Nat × Value)} {st : List Value} {σ : St} {x y : Int32} {i k tgt : Nat} {off : Int}
theorem KS.ts (K : KS Γ cc own Ts ret) : ∀ w ∈ Ts, w.before (x_args Γ) (x_s Γ) = true := K.2.2.2.2.1
theorem KS.vk (K : KS Γ cc own Ts ret) : va_K (x_D Γ) (x_cl Γ) (x_ty Γ) (x_s Γ) := K.2.2.2.2.2.2.2.1.1
theorem KS.nw (K : KS Γ cc own Ts ret) : nwP (x_nw Γ) (x_s Γ) := K.2.2.2.2.2.2.2.1.2
theorem KS.ds (K : KS Γ cc own Ts ret) : ∀ i j, i < x_N Γ → j < x_N Γ → x_ad Γ i = x_ad Γ j → i = j := K.2.2.2.2.2.2.2.2.1
theorem KS.as (K : KS Γ cc own Ts ret) : ∀ i, i < x_N Γ → x_A Γ (x_ad Γ i) := K.2.2.2.2.2.2.2.2.2
theorem k_sub (ks : List Nat) (h : lv_pick lv ks = lv') (kk : Wk Γ pc lv' st σ) : Wk Γ pc lv st σ := fun H locs ls hP hS hl => kk H locs ls hP hS (lv_sub hl ks h)
theorem k_eq {pc2 : Nat} {lv2 : List (Nat × Value)} {st2 : List Value} {σ2 : St} (h1 : pc = pc2) (h2 : lv = lv2) (h3 : st = st2) (h4 : σ = σ2) (kk : Wk Γ pc2 lv2 st2 σ2) : Wk Γ pc lv st σ := by subst h1; subst h2; subst h3; subst h4; exact kk
theorem k_iconst (K : KS Γ cc own Ts ret) {n : Int} (hdg : decode cc pc = .ok (.iconst n, 1)) (hv : Int32.ofInt n = x) (kk : Wk Γ (pc + 1) lv (.int x :: st) σ) : Wk Γ pc lv st σ := fun H locs ls hP hS hl => lv_iconst K.1 K.2.1 hdg hv (kk H locs ls hP hS hl)
theorem k_bipush (K : KS Γ cc own Ts ret) {n : Int} (hdg : decode cc pc = .ok (.bipush n, 2)) (hv : (Int8.ofInt n).toInt32 = x) (kk : Wk Γ (pc + 2) lv (.int x :: st) σ) : Wk Γ pc lv st σ := fun H locs ls hP hS hl => lv_bipush K.1 K.2.1 hdg hv (kk H locs ls hP hS hl)
theorem k_sipush (K : KS Γ cc own Ts ret) {n : Int} (hdg : decode cc pc = .ok (.sipush n, 3)) (hv : (Int16.ofInt n).toInt32 = x) (kk : Wk Γ (pc + 3) lv (.int x :: st) σ) : Wk Γ pc lv st σ := fun H locs ls hP hS hl => lv_sipush K.1 K.2.1 hdg hv (kk H locs ls hP hS hl)
theorem k_lconst (K : KS Γ cc own Ts ret) {n : Fin 2} {v : Int64} (hdg : decode cc pc = .ok (.lconst n, 1)) (hv : Int64.ofNat (n : Nat) = v) (kk : Wk Γ (pc + 1) lv (.long v :: st) σ) : Wk Γ pc lv st σ := fun H locs ls hP hS hl => lv_lconst K.1 K.2.1 hdg hv (kk H locs ls hP hS hl)
theorem k_ldc (K : KS Γ cc own Ts ret) {index : Nat} (hc : Cond.constant own index x ∈ Ts) (hdg : decode cc pc = .ok (.ldc index, 2)) (kk : Wk Γ (pc + 2) lv (.int x :: st) σ) : Wk Γ pc lv st σ := fun H locs ls hP hS hl => lv_ldc K.1 K.2.1 K.2.2.2.1 (K.ts _ hc) hdg (kk H locs ls hP hS hl)
theorem k_ldcw (K : KS Γ cc own Ts ret) {index : Nat} (hc : Cond.constant own index x ∈ Ts) (hdg : decode cc pc = .ok (.ldc_w index, 3)) (kk : Wk Γ (pc + 3) lv (.int x :: st) σ) : Wk Γ pc lv st σ := fun H locs ls hP hS hl => lv_ldcw K.1 K.2.1 K.2.2.2.1 (K.ts _ hc) hdg (kk H locs ls hP hS hl)
theorem k_ldc2 (K : KS Γ cc own Ts ret) {index : Nat} {v : Int64} (hc : Cond.constantLong own index v ∈ Ts) (hdg : decode cc pc = .ok (.ldc2_w index, 3)) (kk : Wk Γ (pc + 3) lv (.long v :: st) σ) : Wk Γ pc lv st σ := fun H locs ls hP hS hl => lv_ldc2 K.1 K.2.1 K.2.2.2.1 (K.ts _ hc) hdg (kk H locs ls hP hS hl)
theorem k_iload_n (K : KS Γ cc own Ts ret) {f : Fin 4} (hdg : decode cc pc = .ok (.iload_n f, 1)) (k : Nat) (hk : lv[k]? = some ((f : Nat), .int x)) (kk : Wk Γ (pc + 1) lv (.int x :: st) σ) : Wk Γ pc lv st σ := fun H locs ls hP hS hl => lv_iload_n K.1 K.2.1 hdg rfl (lv_at hl k hk) (kk H locs ls hP hS hl)
theorem k_iload (K : KS Γ cc own Ts ret) (hdg : decode cc pc = .ok (.iload i, 2)) (k : Nat) (hk : lv[k]? = some (i, .int x)) (kk : Wk Γ (pc + 2) lv (.int x :: st) σ) : Wk Γ pc lv st σ := fun H locs ls hP hS hl => lv_iload K.1 K.2.1 hdg (lv_at hl k hk) (kk H locs ls hP hS hl)
theorem k_lload_n (K : KS Γ cc own Ts ret) {f : Fin 4} {z : Int64} (hdg : decode cc pc = .ok (.lload_n f, 1)) (k : Nat) (hk : lv[k]? = some ((f : Nat), .long z)) (kk : Wk Γ (pc + 1) lv (.long z :: st) σ) : Wk Γ pc lv st σ := fun H locs ls hP hS hl => lv_lload_n K.1 K.2.1 hdg rfl (lv_at hl k hk) (kk H locs ls hP hS hl)
theorem k_lload (K : KS Γ cc own Ts ret) {z : Int64} (hdg : decode cc pc = .ok (.lload i, 2)) (k : Nat) (hk : lv[k]? = some (i, .long z)) (kk : Wk Γ (pc + 2) lv (.long z :: st) σ) : Wk Γ pc lv st σ := fun H locs ls hP hS hl => lv_lload K.1 K.2.1 hdg (lv_at hl k hk) (kk H locs ls hP hS hl)
theorem k_aload_n (K : KS Γ cc own Ts ret) {f : Fin 4} {a : Nat} (hdg : decode cc pc = .ok (.aload_n f, 1)) (k : Nat) (hk : lv[k]? = some ((f : Nat), .ref a)) (kk : Wk Γ (pc + 1) lv (.ref a :: st) σ) : Wk Γ pc lv st σ := fun H locs ls hP hS hl => lv_aload_n K.1 K.2.1 hdg rfl (lv_at hl k hk) (kk H locs ls hP hS hl)
theorem k_istore_n (K : KS Γ cc own Ts ret) {f : Fin 4} (hdg : decode cc pc = .ok (.istore_n f, 1)) (hn : (f : Nat) < x_n Γ) (hl' : ((f : Nat), Value.int x) :: lv.filter (fun q => !(q.1 == (f : Nat)) && !(q.1 + 1 == (f : Nat) && q.2.category == 2)) = lv') (kk : Wk Γ (pc + 1) lv' st σ) : Wk Γ pc lv (.int x :: st) σ := fun H locs ls hP hS hl => lv_istore_n K.1 K.2.1 hdg rfl hl hn hl' (fun ls hl => kk H locs ls hP hS hl)
theorem k_istore (K : KS Γ cc own Ts ret) (hdg : decode cc pc = .ok (.istore i, 2)) (hn : i < x_n Γ) (hl' : (i, Value.int x) :: lv.filter (fun q => !(q.1 == i) && !(q.1 + 1 == i && q.2.category == 2)) = lv') (kk : Wk Γ (pc + 2) lv' st σ) : Wk Γ pc lv (.int x :: st) σ := fun H locs ls hP hS hl => lv_istore K.1 K.2.1 hdg hl hn hl' (fun ls hl => kk H locs ls hP hS hl)
theorem k_astore_n (K : KS Γ cc own Ts ret) {f : Fin 4} {a : Nat} (hdg : decode cc pc = .ok (.astore_n f, 1)) (hn : (f : Nat) < x_n Γ) (hl' : ((f : Nat), Value.ref a) :: lv.filter (fun q => !(q.1 == (f : Nat)) && !(q.1 + 1 == (f : Nat) && q.2.category == 2)) = lv') (kk : Wk Γ (pc + 1) lv' st σ) : Wk Γ pc lv (.ref a :: st) σ := fun H locs ls hP hS hl => lv_astore_n K.1 K.2.1 hdg rfl hl hn hl' (fun ls hl => kk H locs ls hP hS hl)
theorem k_iinc (K : KS Γ cc own Ts ret) {n : Int} {v : Int32} (hdg : decode cc pc = .ok (.iinc i n, 3)) (k : Nat) (hk : lv[k]? = some (i, .int x)) (hv : x + Int32.ofInt n = v) (hn : i < x_n Γ) (hl' : (i, Value.int v) :: lv.filter (fun q => !(q.1 == i) && !(q.1 + 1 == i && q.2.category == 2)) = lv') (kk : Wk Γ (pc + 3) lv' st σ) : Wk Γ pc lv st σ := fun H locs ls hP hS hl => lv_iinc K.1 K.2.1 hdg hl hk hv hn hl' (fun ls hl => kk H locs ls hP hS hl)
theorem k_dup (K : KS Γ cc own Ts ret) {v : Value} (hdg : decode cc pc = .ok (.dup, 1)) (hv : v.category = 1) (kk : Wk Γ (pc + 1) lv (v :: v :: st) σ) : Wk Γ pc lv (v :: st) σ := fun H locs ls hP hS hl => lv_dup K.1 K.2.1 hdg hv (kk H locs ls hP hS hl)
theorem k_dup2 (K : KS Γ cc own Ts ret) {v w : Value} (hdg : decode cc pc = .ok (.dup2, 1)) (hv : v.category = 1) (hw : w.category = 1) (kk : Wk Γ (pc + 1) lv (v :: w :: v :: w :: st) σ) : Wk Γ pc lv (v :: w :: st) σ := fun H locs ls hP hS hl => lv_dup2_11 K.1 K.2.1 hdg hv hw (kk H locs ls hP hS hl)
theorem k_iadd (K : KS Γ cc own Ts ret) (hdg : decode cc pc = .ok (.iadd, 1)) (kk : Wk Γ (pc + 1) lv (.int (x + y) :: st) σ) : Wk Γ pc lv (.int y :: .int x :: st) σ := fun H locs ls hP hS hl => lv_iadd K.1 K.2.1 hdg (kk H locs ls hP hS hl)
theorem k_isub (K : KS Γ cc own Ts ret) (hdg : decode cc pc = .ok (.isub, 1)) (kk : Wk Γ (pc + 1) lv (.int (x - y) :: st) σ) : Wk Γ pc lv (.int y :: .int x :: st) σ := fun H locs ls hP hS hl => lv_isub K.1 K.2.1 hdg (kk H locs ls hP hS hl)
theorem k_imul (K : KS Γ cc own Ts ret) (hdg : decode cc pc = .ok (.imul, 1)) (kk : Wk Γ (pc + 1) lv (.int (x * y) :: st) σ) : Wk Γ pc lv (.int y :: .int x :: st) σ := fun H locs ls hP hS hl => lv_imul K.1 K.2.1 hdg (kk H locs ls hP hS hl)
theorem k_iand (K : KS Γ cc own Ts ret) (hdg : decode cc pc = .ok (.iand, 1)) (kk : Wk Γ (pc + 1) lv (.int (x &&& y) :: st) σ) : Wk Γ pc lv (.int y :: .int x :: st) σ := fun H locs ls hP hS hl => lv_iand K.1 K.2.1 hdg (kk H locs ls hP hS hl)
theorem k_ior (K : KS Γ cc own Ts ret) (hdg : decode cc pc = .ok (.ior, 1)) (kk : Wk Γ (pc + 1) lv (.int (x ||| y) :: st) σ) : Wk Γ pc lv (.int y :: .int x :: st) σ := fun H locs ls hP hS hl => lv_ior K.1 K.2.1 hdg (kk H locs ls hP hS hl)
theorem k_ixor (K : KS Γ cc own Ts ret) (hdg : decode cc pc = .ok (.ixor, 1)) (kk : Wk Γ (pc + 1) lv (.int (x ^^^ y) :: st) σ) : Wk Γ pc lv (.int y :: .int x :: st) σ := fun H locs ls hP hS hl => lv_ixor K.1 K.2.1 hdg (kk H locs ls hP hS hl)
/-- x << y -/
def i_shl (x y : Int32) : Int32 := x <<< (y &&& 31)
/-- x >> y -/
def i_shr (x y : Int32) : Int32 := x >>> (y &&& 31)
theorem k_ishl (K : KS Γ cc own Ts ret) (hdg : decode cc pc = .ok (.ishl, 1)) (kk : Wk Γ (pc + 1) lv (.int (i_shl x y) :: st) σ) : Wk Γ pc lv (.int y :: .int x :: st) σ := fun H locs ls hP hS hl => lv_ishl K.1 K.2.1 hdg (kk H locs ls hP hS hl)
theorem k_ishr (K : KS Γ cc own Ts ret) (hdg : decode cc pc = .ok (.ishr, 1)) (kk : Wk Γ (pc + 1) lv (.int (i_shr x y) :: st) σ) : Wk Γ pc lv (.int y :: .int x :: st) σ := fun H locs ls hP hS hl => lv_ishr K.1 K.2.1 hdg (kk H locs ls hP hS hl)
/-- x >>> y -/
def i_ushr (x y : Int32) : Int32 := (x.toUInt32 >>> (y.toUInt32 &&& Int32.toUInt32 31)).toInt32
/-- x % y -/
def i_rem (x y : Int32) : Int32 := x - x / y * y
/-- (char) x -/
def i_chr (x : Int32) : Int32 := (x.toUInt32 % 65536).toInt32
/-- Math.max, Math.min -/
def i_max (x y : Int32) : Int32 := if x < y then y else x
def i_min (x y : Int32) : Int32 := if y < x then y else x
theorem k_max (K : KS Γ cc own Ts ret) {index : Nat} (h1 : Cond.methodLink own index Lib.Math.max.name ∈ Ts) (h2 : Cond.static Lib.Math.max.name ∈ Ts) (h3 : Cond.initialized "java/lang/Math" ∈ Ts) (h4 : Cond.code Lib.Math.max.name Lib.Math.max.code 2 (some .int) ∈ Ts) (hf : 1 ≤ (x_R Γ).frames) (hlo : (st.map fun v => v.category).sum + 13 ≤ (x_R Γ).locals) (hdg : decode cc pc = .ok (.invokestatic index, 3)) (kk : Wk Γ (pc + 3) lv (.int (i_max x y) :: st) σ) : Wk Γ pc lv (.int y :: .int x :: st) σ := fun H locs ls hP hS hl => va_mmax K.1 K.2.1 (K.2.2.1.trans hl.1.symm) K.2.2.2.1 (K.ts _ h1) (K.ts _ h2) (K.ts _ h3) (K.ts _ h4) hf hlo (Nat.zero_le _) (Nat.zero_le _) hdg (kk H locs ls hP hS hl)
theorem k_min (K : KS Γ cc own Ts ret) {index : Nat} (h1 : Cond.methodLink own index Lib.Math.min.name ∈ Ts) (h2 : Cond.static Lib.Math.min.name ∈ Ts) (h3 : Cond.initialized "java/lang/Math" ∈ Ts) (h4 : Cond.code Lib.Math.min.name Lib.Math.min.code 2 (some .int) ∈ Ts) (hf : 1 ≤ (x_R Γ).frames) (hlo : (st.map fun v => v.category).sum + 13 ≤ (x_R Γ).locals) (hdg : decode cc pc = .ok (.invokestatic index, 3)) (kk : Wk Γ (pc + 3) lv (.int (i_min x y) :: st) σ) : Wk Γ pc lv (.int y :: .int x :: st) σ := fun H locs ls hP hS hl => va_mmin K.1 K.2.1 (K.2.2.1.trans hl.1.symm) K.2.2.2.1 (K.ts _ h1) (K.ts _ h2) (K.ts _ h3) (K.ts _ h4) hf hlo (Nat.zero_le _) (Nat.zero_le _) hdg (kk H locs ls hP hS hl)
theorem k_iushr (K : KS Γ cc own Ts ret) (hdg : decode cc pc = .ok (.iushr, 1)) (kk : Wk Γ (pc + 1) lv (.int (i_ushr x y) :: st) σ) : Wk Γ pc lv (.int y :: .int x :: st) σ := fun H locs ls hP hS hl => lv_iushr K.1 K.2.1 hdg rfl (kk H locs ls hP hS hl)
theorem k_ineg (K : KS Γ cc own Ts ret) (hdg : decode cc pc = .ok (.ineg, 1)) (kk : Wk Γ (pc + 1) lv (.int (-x) :: st) σ) : Wk Γ pc lv (.int x :: st) σ := fun H locs ls hP hS hl => lv_ineg K.1 K.2.1 hdg (kk H locs ls hP hS hl)
theorem k_idiv (K : KS Γ cc own Ts ret) (hdg : decode cc pc = .ok (.idiv, 1)) (hn : ¬ y = 0) (kk : Wk Γ (pc + 1) lv (.int (x / y) :: st) σ) : Wk Γ pc lv (.int y :: .int x :: st) σ := fun H locs ls hP hS hl => lv_idiv K.1 K.2.1 hdg hn (kk H locs ls hP hS hl)
theorem k_irem (K : KS Γ cc own Ts ret) (hdg : decode cc pc = .ok (.irem, 1)) (hn : ¬ y = 0) (kk : Wk Γ (pc + 1) lv (.int (i_rem x y) :: st) σ) : Wk Γ pc lv (.int y :: .int x :: st) σ := fun H locs ls hP hS hl => lv_irem K.1 K.2.1 hdg hn (kk H locs ls hP hS hl)
theorem k_i2l (K : KS Γ cc own Ts ret) (hdg : decode cc pc = .ok (.i2l, 1)) (kk : Wk Γ (pc + 1) lv (.long x.toInt64 :: st) σ) : Wk Γ pc lv (.int x :: st) σ := fun H locs ls hP hS hl => lv_i2l K.1 K.2.1 hdg rfl (kk H locs ls hP hS hl)
theorem k_i2c (K : KS Γ cc own Ts ret) (hdg : decode cc pc = .ok (.i2c, 1)) (kk : Wk Γ (pc + 1) lv (.int (i_chr x) :: st) σ) : Wk Γ pc lv (.int x :: st) σ := fun H locs ls hP hS hl => lv_i2c K.1 K.2.1 hdg rfl (kk H locs ls hP hS hl)
theorem k_ladd (K : KS Γ cc own Ts ret) {z w : Int64} (hdg : decode cc pc = .ok (.ladd, 1)) (kk : Wk Γ (pc + 1) lv (.long (z + w) :: st) σ) : Wk Γ pc lv (.long w :: .long z :: st) σ := fun H locs ls hP hS hl => lv_ladd K.1 K.2.1 hdg (kk H locs ls hP hS hl)
theorem k_goto (K : KS Γ cc own Ts ret) (hdg : decode cc pc = .ok (.goto off, 3)) (ht : (pc : Int) + off = (tgt : Int)) (kk : Wk Γ tgt lv st σ) : Wk Γ pc lv st σ := fun H locs ls hP hS hl => lv_goto K.1 K.2.1 hdg ht (kk H locs ls hP hS hl)
theorem i_nlt {a b : Int32} : ¬ a < b ↔ b ≤ a := by rw [Int32.lt_iff_toInt_lt, Int32.le_iff_toInt_le]; omega
theorem k_icmp_eq (K : KS Γ cc own Ts ret) (hdg : decode cc pc = .ok (.if_icmp .eq off, 3)) (ht : (pc : Int) + off = (tgt : Int)) (kt : x = y → Wk Γ tgt lv st σ) (kf : ¬ x = y → Wk Γ (pc + 3) lv st σ) : Wk Γ pc lv (.int y :: .int x :: st) σ := fun H locs ls hP hS hl => lv_icmp_eq K.1 K.2.1 hdg ht (fun h => kt h H locs ls hP hS hl) (fun h => kf h H locs ls hP hS hl)
theorem k_icmp_ne (K : KS Γ cc own Ts ret) (hdg : decode cc pc = .ok (.if_icmp .ne off, 3)) (ht : (pc : Int) + off = (tgt : Int)) (kt : ¬ x = y → Wk Γ tgt lv st σ) (kf : x = y → Wk Γ (pc + 3) lv st σ) : Wk Γ pc lv (.int y :: .int x :: st) σ := fun H locs ls hP hS hl => lv_icmp_ne K.1 K.2.1 hdg ht (fun h => kt h H locs ls hP hS hl) (fun h => kf h H locs ls hP hS hl)
theorem k_icmp_lt (K : KS Γ cc own Ts ret) (hdg : decode cc pc = .ok (.if_icmp .lt off, 3)) (ht : (pc : Int) + off = (tgt : Int)) (kt : x < y → Wk Γ tgt lv st σ) (kf : ¬ x < y → Wk Γ (pc + 3) lv st σ) : Wk Γ pc lv (.int y :: .int x :: st) σ := fun H locs ls hP hS hl => lv_icmp_lt K.1 K.2.1 hdg ht (fun h => kt h H locs ls hP hS hl) (fun h => kf h H locs ls hP hS hl)
theorem k_icmp_ge (K : KS Γ cc own Ts ret) (hdg : decode cc pc = .ok (.if_icmp .ge off, 3)) (ht : (pc : Int) + off = (tgt : Int)) (kt : ¬ x < y → Wk Γ tgt lv st σ) (kf : x < y → Wk Γ (pc + 3) lv st σ) : Wk Γ pc lv (.int y :: .int x :: st) σ := fun H locs ls hP hS hl => lv_icmp_ge K.1 K.2.1 hdg ht (fun h => kt (i_nlt.mpr h) H locs ls hP hS hl) (fun h => kf (Classical.byContradiction fun h2 => h (i_nlt.mp h2)) H locs ls hP hS hl)
theorem k_icmp_gt (K : KS Γ cc own Ts ret) (hdg : decode cc pc = .ok (.if_icmp .gt off, 3)) (ht : (pc : Int) + off = (tgt : Int)) (kt : y < x → Wk Γ tgt lv st σ) (kf : ¬ y < x → Wk Γ (pc + 3) lv st σ) : Wk Γ pc lv (.int y :: .int x :: st) σ := fun H locs ls hP hS hl => lv_icmp_gt K.1 K.2.1 hdg ht (fun h => kt h H locs ls hP hS hl) (fun h => kf h H locs ls hP hS hl)
theorem k_icmp_le (K : KS Γ cc own Ts ret) (hdg : decode cc pc = .ok (.if_icmp .le off, 3)) (ht : (pc : Int) + off = (tgt : Int)) (kt : ¬ y < x → Wk Γ tgt lv st σ) (kf : y < x → Wk Γ (pc + 3) lv st σ) : Wk Γ pc lv (.int y :: .int x :: st) σ := fun H locs ls hP hS hl => lv_icmp_le K.1 K.2.1 hdg ht (fun h => kt (i_nlt.mpr h) H locs ls hP hS hl) (fun h => kf (Classical.byContradiction fun h2 => h (i_nlt.mp h2)) H locs ls hP hS hl)
theorem k_if_eq (K : KS Γ cc own Ts ret) (hdg : decode cc pc = .ok (.ifCond .eq off, 3)) (ht : (pc : Int) + off = (tgt : Int)) (kt : x = 0 → Wk Γ tgt lv st σ) (kf : ¬ x = 0 → Wk Γ (pc + 3) lv st σ) : Wk Γ pc lv (.int x :: st) σ := fun H locs ls hP hS hl => lv_if_eq K.1 K.2.1 hdg ht (fun h => kt h H locs ls hP hS hl) (fun h => kf h H locs ls hP hS hl)
theorem k_if_ne (K : KS Γ cc own Ts ret) (hdg : decode cc pc = .ok (.ifCond .ne off, 3)) (ht : (pc : Int) + off = (tgt : Int)) (kt : ¬ x = 0 → Wk Γ tgt lv st σ) (kf : x = 0 → Wk Γ (pc + 3) lv st σ) : Wk Γ pc lv (.int x :: st) σ := fun H locs ls hP hS hl => lv_if_ne K.1 K.2.1 hdg ht (fun h => kt h H locs ls hP hS hl) (fun h => kf h H locs ls hP hS hl)
theorem k_if_lt (K : KS Γ cc own Ts ret) (hdg : decode cc pc = .ok (.ifCond .lt off, 3)) (ht : (pc : Int) + off = (tgt : Int)) (kt : x < 0 → Wk Γ tgt lv st σ) (kf : ¬ x < 0 → Wk Γ (pc + 3) lv st σ) : Wk Γ pc lv (.int x :: st) σ := fun H locs ls hP hS hl => lv_if_lt K.1 K.2.1 hdg ht (fun h => kt h H locs ls hP hS hl) (fun h => kf h H locs ls hP hS hl)
theorem k_if_ge (K : KS Γ cc own Ts ret) (hdg : decode cc pc = .ok (.ifCond .ge off, 3)) (ht : (pc : Int) + off = (tgt : Int)) (kt : ¬ x < 0 → Wk Γ tgt lv st σ) (kf : x < 0 → Wk Γ (pc + 3) lv st σ) : Wk Γ pc lv (.int x :: st) σ := fun H locs ls hP hS hl => lv_if_ge K.1 K.2.1 hdg ht (fun h => kt (i_nlt.mpr h) H locs ls hP hS hl) (fun h => kf (Classical.byContradiction fun h2 => h (i_nlt.mp h2)) H locs ls hP hS hl)
theorem k_if_gt (K : KS Γ cc own Ts ret) (hdg : decode cc pc = .ok (.ifCond .gt off, 3)) (ht : (pc : Int) + off = (tgt : Int)) (kt : 0 < x → Wk Γ tgt lv st σ) (kf : ¬ 0 < x → Wk Γ (pc + 3) lv st σ) : Wk Γ pc lv (.int x :: st) σ := fun H locs ls hP hS hl => lv_if_gt K.1 K.2.1 hdg ht (fun h => kt h H locs ls hP hS hl) (fun h => kf h H locs ls hP hS hl)
theorem k_if_le (K : KS Γ cc own Ts ret) (hdg : decode cc pc = .ok (.ifCond .le off, 3)) (ht : (pc : Int) + off = (tgt : Int)) (kt : ¬ 0 < x → Wk Γ tgt lv st σ) (kf : 0 < x → Wk Γ (pc + 3) lv st σ) : Wk Γ pc lv (.int x :: st) σ := fun H locs ls hP hS hl => lv_if_le K.1 K.2.1 hdg ht (fun h => kt (i_nlt.mpr h) H locs ls hP hS hl) (fun h => kf (Classical.byContradiction fun h2 => h (i_nlt.mp h2)) H locs ls hP hS hl)
theorem k_lcmp (K : KS Γ cc own Ts ret) {z w : Int64} (hdg : decode cc pc = .ok (.lcmp, 1)) (kk : Wk Γ (pc + 1) lv (.int (lg_cmp z w) :: st) σ) : Wk Γ pc lv (.long w :: .long z :: st) σ := fun H locs ls hP hS hl => W.lcmp K.1 K.2.1 hdg (kk H locs ls hP hS hl)
theorem k_tableOut (K : KS Γ cc own Ts ret) {dflt lo hi : Int} {offs : Array Int} {len : Nat} (hdg : decode cc pc = .ok (.tableswitch dflt lo hi offs, len)) (h : x.toInt < lo ∨ hi < x.toInt) (ht : (pc : Int) + dflt = (tgt : Int)) (kk : Wk Γ tgt lv st σ) : Wk Γ pc lv (.int x :: st) σ := fun H locs ls hP hS hl => lv_tableOut K.1 K.2.1 hdg h ht (kk H locs ls hP hS hl)
theorem k_tableIn (K : KS Γ cc own Ts ret) {dflt lo hi : Int} {offs : Array Int} {len : Nat} (hdg : decode cc pc = .ok (.tableswitch dflt lo hi offs, len)) (h1 : ¬ x.toInt < lo) (h2 : ¬ hi < x.toInt) (ho : offs[(x.toInt - lo).toNat]? = some off) (ht : (pc : Int) + off = (tgt : Int)) (kk : Wk Γ tgt lv st σ) : Wk Γ pc lv (.int x :: st) σ := fun H locs ls hP hS hl => lv_tableIn K.1 K.2.1 hdg h1 h2 ho ht (kk H locs ls hP hS hl)
theorem k_lookup (K : KS Γ cc own Ts ret) {dflt : Int} {ps : Array (Int × Int)} {len : Nat} (hdg : decode cc pc = .ok (.lookupswitch dflt ps, len)) (hp : (ps.toList.zip (ps.toList.drop 1)).all (fun (a, next) => a.1 < next.1) = true) (ho : Op.lookupswitch.offset ps.toList dflt x.toInt = off) (ht : (pc : Int) + off = (tgt : Int)) (kk : Wk Γ tgt lv st σ) : Wk Γ pc lv (.int x :: st) σ := fun H locs ls hP hS hl => lv_lookup K.1 K.2.1 hdg hp ho ht (kk H locs ls hP hS hl)
/-- a number's place in a row -/
abbrev nx (x : Int32) : Nat := x.toNatClampNeg
/-- x is a place in a row of n -/
abbrev ib (x : Int32) (n : Nat) : Prop := ¬ (x < 0 ∨ n ≤ nx x)
theorem k_ild (K : KS Γ cc own Ts ret) (i t0 : Nat) {cA : ClassId} {n : Nat} (hi : i < x_N Γ) (hm : x_mk Γ i (σ i) = .inl (cA, n, .inl (σ i))) (ht : (x_ty Γ)[t0]? = some (cA, .int)) (hin : vp_in x n) (hdg : decode cc pc = .ok (.iaload, 1)) (kk : Wk Γ (pc + 1) lv (.int (σ i (nx x)) :: st) σ) : Wk Γ pc lv (.int x :: .ref (x_ad Γ i) :: st) σ := fun H locs ls hP hS hl => va_iald K.1 K.2.1 K.vk hP i t0 (w_d_get hi hm) ht hin hdg (kk H locs ls hP hS hl)
theorem k_cld (K : KS Γ cc own Ts ret) (i t0 : Nat) {cA : ClassId} {n : Nat} (hi : i < x_N Γ) (hm : x_mk Γ i (σ i) = .inl (cA, n, .inl (σ i))) (ht : (x_ty Γ)[t0]? = some (cA, .char)) (hin : vp_in x n) (hdg : decode cc pc = .ok (.caload, 1)) (kk : Wk Γ (pc + 1) lv (.int (σ i (nx x)) :: st) σ) : Wk Γ pc lv (.int x :: .ref (x_ad Γ i) :: st) σ := fun H locs ls hP hS hl => va_cald K.1 K.2.1 K.vk hP i t0 (w_d_get hi hm) ht hin hdg (kk H locs ls hP hS hl)
theorem k_zld (K : KS Γ cc own Ts ret) (i t0 : Nat) {cA : ClassId} {n : Nat} (hi : i < x_N Γ) (hm : x_mk Γ i (σ i) = .inl (cA, n, .inl (σ i))) (ht : (x_ty Γ)[t0]? = some (cA, .boolean)) (hin : vp_in x n) (hdg : decode cc pc = .ok (.baload, 1)) (kk : Wk Γ (pc + 1) lv (.int (σ i (nx x)) :: st) σ) : Wk Γ pc lv (.int x :: .ref (x_ad Γ i) :: st) σ := fun H locs ls hP hS hl => va_zald K.1 K.2.1 K.vk hP i t0 (w_d_get hi hm) ht hin hdg (kk H locs ls hP hS hl)
theorem k_len (K : KS Γ cc own Ts ret) (i t0 : Nat) {cA : ClassId} {ty : FieldType} {z : vp_A} (hi : i < x_N Γ) (hm : x_mk Γ i (σ i) = .inl (cA, z)) (ht : (x_ty Γ)[t0]? = some (cA, ty)) (hv : Int32.ofNat z.1 = x) (hdg : decode cc pc = .ok (.arraylength, 1)) (kk : Wk Γ (pc + 1) lv (.int x :: st) σ) : Wk Γ pc lv (.ref (x_ad Γ i) :: st) σ := fun H locs ls hP hS hl => va_alen K.1 K.2.1 K.vk hP i t0 (w_d_get hi hm) ht hv hdg (kk H locs ls hP hS hl)
theorem k_put0 {i : Nat} {f : Nat → Int32} {e : va_E} (he : e = x_mk Γ i f) {H : Heap} (hP : va_P (x_D Γ) (x_cl Γ) ((w_d (x_mk Γ) (x_ad Γ) (x_N Γ) σ).set i (x_ad Γ i, e)) H) : va_P (x_D Γ) (x_cl Γ) (w_d (x_mk Γ) (x_ad Γ) (x_N Γ) (s_row σ i f)) H := by
  rw [w_d_set he] at hP; exact hP
theorem k_ist (K : KS Γ cc own Ts ret) (i t0 : Nat) {cA : ClassId} {n : Nat} (hi : i < x_N Γ) (hm : ∀ f, x_mk Γ i f = .inl (cA, n, .inl f)) (ht : (x_ty Γ)[t0]? = some (cA, .int)) (hin : vp_in x n) (hdg : decode cc pc = .ok (.iastore, 1)) (kk : Wk Γ (pc + 1) lv st (s_up σ i (nx x) y)) : Wk Γ pc lv (.int y :: .int x :: .ref (x_ad Γ i) :: st) σ := fun H locs ls hP hS hl => va_iast K.1 K.2.1 K.vk hP (w_d_D σ K.ds K.as) hS i t0 (w_d_get hi (hm _)) ht hin hdg (fun H1 locs1 hP1 _ hS1 => kk H1 locs1 ls (by rw [s_up_row]; exact k_put0 (hm _).symm hP1) hS1 hl)
theorem k_zst (K : KS Γ cc own Ts ret) (i t0 : Nat) {cA : ClassId} {n : Nat} (hi : i < x_N Γ) (hm : ∀ f, x_mk Γ i f = .inl (cA, n, .inl f)) (ht : (x_ty Γ)[t0]? = some (cA, .boolean)) (hin : vp_in x n) (hy : vp_nar .boolean y = y) (hdg : decode cc pc = .ok (.bastore, 1)) (kk : Wk Γ (pc + 1) lv st (s_up σ i (nx x) y)) : Wk Γ pc lv (.int y :: .int x :: .ref (x_ad Γ i) :: st) σ := fun H locs ls hP hS hl => va_zast K.1 K.2.1 K.vk hP (w_d_D σ K.ds K.as) hS i t0 (w_d_get hi (hm _)) ht hin hdg (fun H1 locs1 hP1 _ hS1 => kk H1 locs1 ls (by rw [s_up_row]; rw [hy] at hP1; exact k_put0 (hm _).symm hP1) hS1 hl)
theorem k_cst (K : KS Γ cc own Ts ret) (i t0 : Nat) {cA : ClassId} {n : Nat} (hi : i < x_N Γ) (hm : ∀ f, x_mk Γ i f = .inl (cA, n, .inl f)) (ht : (x_ty Γ)[t0]? = some (cA, .char)) (hin : vp_in x n) (hdg : decode cc pc = .ok (.castore, 1)) (kk : Wk Γ (pc + 1) lv st (s_up σ i (nx x) (i_chr y))) : Wk Γ pc lv (.int (i_chr y) :: .int x :: .ref (x_ad Γ i) :: st) σ := fun H locs ls hP hS hl => va_cast K.1 K.2.1 K.vk hP (w_d_D σ K.ds K.as) hS i t0 (w_d_get hi (hm _)) ht hin hdg (fun H1 locs1 hP1 _ hS1 => kk H1 locs1 ls (by rw [s_up_row]; rw [show vp_nar .char (i_chr y) = i_chr y from pk_vc y] at hP1; exact k_put0 (hm _).symm hP1) hS1 hl)
/-- a field is read -/
theorem k_get (K : KS Γ cc own Ts ret) (i ci k : Nat) {C : String} {T : u_T} {N index : Nat} {fs : List Value} {v : Value} (hin : ∀ w ∈ u_ws C T N, w ∈ Ts) (hi : i < x_N Γ) (hm : x_mk Γ i (σ i) = .inr (ci, fs)) (hc : (x_cl Γ)[ci]? = some (C, T, N)) (hk : k < N) (hlink : Cond.fieldLink own index (T k).1 (T k).2.1 (T k).2.2.1 ∈ Ts) (hv : fs[k]? = some v) (hdg : decode cc pc = .ok (.getfield index, 3)) (kk : Wk Γ (pc + 3) lv (v :: st) σ) : Wk Γ pc lv (.ref (x_ad Γ i) :: st) σ := fun H locs ls hP hS hl => va_get K.1 K.2.1 K.ts hin K.2.2.2.1 K.vk hP i (w_d_get hi hm) hc k hk (K.ts _ hlink) (fun _ h => h) hv hdg (kk H locs ls hP hS hl)
/-- a field is written: f is what the cell's numbers become -/
theorem k_put (K : KS Γ cc own Ts ret) (i ci k : Nat) {C : String} {T : u_T} {N index : Nat} {fs : List Value} {v : Value} {f : Nat → Int32} {ty : FieldType} (ty0 : Nat → FieldType) (hty : ∀ k, k < N → parseFieldDescriptor (T k).2.2.1 = some (ty0 k)) (hnm : ∀ a, a < N → ∀ b, b < N → a ≠ b → (T a).2.1 ≠ (T b).2.1) (hin : ∀ w ∈ u_ws C T N, w ∈ Ts) (hi : i < x_N Γ) (hm : x_mk Γ i (σ i) = .inr (ci, fs)) (hc : (x_cl Γ)[ci]? = some (C, T, N)) (hk : k < N) (hlink : Cond.fieldLink own index (T k).1 (T k).2.1 (T k).2.2.1 ∈ Ts) (hfin : (T k).2.2.2 = false) (hd : parseFieldDescriptor (T k).2.2.1 = some ty) (hn : narrow ty v = v) (hfit : fits ty v = true) (hl0 : k < fs.length) (he : (Sum.inr (ci, fs.set k v) : va_E) = x_mk Γ i f) (hdg : decode cc pc = .ok (.putfield index, 3)) (kk : Wk Γ (pc + 3) lv st (s_row σ i f)) : Wk Γ pc lv (v :: .ref (x_ad Γ i) :: st) σ := fun H locs ls hP hS hl => va_put K.1 K.2.1 K.ts hin ty0 hty hnm K.2.2.2.1 K.vk hP (w_d_D σ K.ds K.as) hS i (w_d_get hi hm) hc k hk (K.ts _ hlink) (fun _ h => h) hfin hd hn hfit hl0 hdg (fun H1 locs1 hP1 _ hS1 => kk H1 locs1 ls (k_put0 he hP1) hS1 hl)
end KKK
/-! ends, contracts, calls -/
/-- the method's end with this answer and this state reaches the goal -/
def HRi (Γ : Cx) (cc : ByteArray) (ok : Int32 → Prop) (res : Int32 × St) : Prop := ∀ (pc : Nat) (lv : List (Nat × Value)), decode cc pc = .ok (.ireturn, 1) → ok res.1 → Wk Γ pc lv [.int res.1] res.2
def HRv (Γ : Cx) (cc : ByteArray) (res : Int32 × St) : Prop := ∀ (pc : Nat) (lv : List (Nat × Value)), decode cc pc = .ok (.return_, 1) → Wk Γ pc lv [] res.2
def HRl (Γ : Cx) (cc : ByteArray) (res : Int64 × St) : Prop := ∀ (pc : Nat) (lv : List (Nat × Value)), decode cc pc = .ok (.lreturn, 1) → Wk Γ pc lv [.long res.1] res.2
/-- a truth value -/
abbrev zb (x : Int32) : Prop := x = 0 ∨ x = 1
theorem zb_0 : zb 0 := Or.inl rfl
theorem zb_1 : zb 1 := Or.inr rfl
theorem zb.n {x : Int32} (h : zb x) : narrow .boolean (.int x) = .int x := by rcases h with h | h <;> rw [h] <;> rfl
def tb (_ : Int32) : Prop := True
def c_P (D : va_G) (cl : List vw_C) (tys : List (ClassId × FieldType)) (nw : List Cond) (mk : Mk) (ad : Nat → Nat) (N : Nat) (av : List Value) (σ : St) : Array Value → State → Prop := va_Pc av (fun U => va_P D cl (w_d mk ad N σ) U.heap ∧ va_K D cl tys U ∧ nwP nw U ∧ (∀ i j, i < N → j < N → ad i = ad j → i = j))
def c_Qi (D : va_G) (cl : List vw_C) (mk : Mk) (ad : Nat → Nat) (N : Nat) (res : Int32 × St) : Array Value → State → Outcome → State → Prop := va_Qi (fun (r : Int32) (u : St) => (r, u) = res) (fun u t => va_P D cl (w_d mk ad N u) t.heap) (w_A ad N)
def c_Qv (D : va_G) (cl : List vw_C) (mk : Mk) (ad : Nat → Nat) (N : Nat) (res : Int32 × St) : Array Value → State → Outcome → State → Prop := va_Qv (fun (u : St) => u = res.2) (fun u t => va_P D cl (w_d mk ad N u) t.heap) (w_A ad N)
def c_Ql (D : va_G) (cl : List vw_C) (mk : Mk) (ad : Nat → Nat) (N : Nat) (res : Int64 × St) : Array Value → State → Outcome → State → Prop := va_Ql (fun (r : Int64) (u : St) => (r, u) = res) (fun u t => va_P D cl (w_d mk ad N u) t.heap) (w_A ad N)
/-- a contract: from the state σ with these arguments the method answers res.1 and the state is res.2; nothing else has changed -/
def Ci (l : Launch) (y : MethodName) (ws : List Cond) (fr lo : Nat) (D : va_G) (cl : List vw_C) (tys : List (ClassId × FieldType)) (nw : List Cond) (mk : Mk) (ad : Nat → Nat) (N : Nat) (av : List Value) (σ : St) (res : Int32 × St) : Prop := Met l y ws { frames := fr, cells := 0, slots := 0, locals := lo } (c_P D cl tys nw mk ad N av σ) (c_Qi D cl mk ad N res) 0 0 (w_A ad N)
def Cv (l : Launch) (y : MethodName) (ws : List Cond) (fr lo : Nat) (D : va_G) (cl : List vw_C) (tys : List (ClassId × FieldType)) (nw : List Cond) (mk : Mk) (ad : Nat → Nat) (N : Nat) (av : List Value) (σ : St) (res : Int32 × St) : Prop := Met l y ws { frames := fr, cells := 0, slots := 0, locals := lo } (c_P D cl tys nw mk ad N av σ) (c_Qv D cl mk ad N res) 0 0 (w_A ad N)
def Cl (l : Launch) (y : MethodName) (ws : List Cond) (fr lo : Nat) (D : va_G) (cl : List vw_C) (tys : List (ClassId × FieldType)) (nw : List Cond) (mk : Mk) (ad : Nat → Nat) (N : Nat) (av : List Value) (σ : St) (res : Int64 × St) : Prop := Met l y ws { frames := fr, cells := 0, slots := 0, locals := lo } (c_P D cl tys nw mk ad N av σ) (c_Ql D cl mk ad N res) 0 0 (w_A ad N)
/-- a context of a launch, tables, cells, addresses: what is left is the frame's -/
abbrev Gx (l : Launch) (rm : Room) (D : va_G) (cl : List vw_C) (tys : List (ClassId × FieldType)) (nw : List Cond) (mk : Mk) (ad : Nat → Nat) (N : Nat) (a : Program × Env × State × MethodId) (b : Array Value × List Frame × Method × Code × (State → Prop) × Nat) (A : Nat → Prop) : Cx := ((a.1, l, a.2.1, rm, a.2.2.1, a.2.2.2), b, (D, cl, tys, nw), (mk, ad, N, A))
section CCC
variable {l : Launch} {y : MethodName} {ws ws' : List Cond} {fr lo : Nat} {D : va_G} {cl : List vw_C} {tys : List (ClassId × FieldType)} {nw : List Cond} {mk : Mk} {ad : Nat → Nat} {N : Nat} {av : List Value} {σ : St} {cc : ByteArray} {maxL : Nat}
theorem c_body {ret : Option FieldType} {Qc : Array Value → State → Outcome → State → Prop} (hy : plainName y.cls = true) (hw : ws = Cond.code y cc maxL ret :: ws') (hn : (lg_sl av).length ≤ maxL)
    (body : ∀ (a : Program × Env × State × MethodId) (b : Array Value × List Frame × Method × Code × (State → Prop) × Nat), b.2.2.2.2.1 = MQ b.2.1 Qc b.1 a.2.2.1 0 0 (w_A ad N) → b.2.2.2.2.2 = maxL → KS (Gx l { frames := fr, cells := 0, slots := 0, locals := lo } D cl tys nw mk ad N a b (w_A ad N)) cc y.cls ws ret → Wk (Gx l { frames := fr, cells := 0, slots := 0, locals := lo } D cl tys nw mk ad N a b (w_A ad N)) 0 (lv_args 0 av) [] σ) :
    Met l y ws { frames := fr, cells := 0, slots := 0, locals := lo } (c_P D cl tys nw mk ad N av σ) Qc 0 0 (w_A ad N) := by
  refine Met.ofW (cc := cc) (maxL := maxL) (ret := ret) hy hw ?_
  intro p e s m args below meth c s₁ B hml hv
  obtain ⟨rfl, hP, hK, hNw, hd⟩ := hv
  have hts := atoms_spec (ws := ws) B.pre
  have hown : s.vm.findClass y.cls = some m.cls := findClass_of_methodNamed B.named
  have hl := lv_entry av (n := maxL) hn
  rw [lg_entry_eq]
  exact body (p, e, s, m) (av.toArray, below, meth, c, MQ below Qc av.toArray s 0 0 (w_A ad N), maxL) rfl rfl ⟨B.exec, B.bytes, hml, hown, hts, B.returns, B.notSynchronized, ⟨hK, hNw⟩, hd, fun i hi => ⟨i, hi, rfl⟩⟩ s.heap [] _ hP va_S.rf hl
theorem c_int {res : Int32 × St} (hy : plainName y.cls = true) (hw : ws = Cond.code y cc maxL (some .int) :: ws') (hn : (lg_sl av).length ≤ maxL)
    (body : ∀ (a : Program × Env × State × MethodId) (b : Array Value × List Frame × Method × Code × (State → Prop) × Nat), b.2.2.2.2.2 = maxL → KS (Gx l { frames := fr, cells := 0, slots := 0, locals := lo } D cl tys nw mk ad N a b (w_A ad N)) cc y.cls ws (some .int) → HRi (Gx l { frames := fr, cells := 0, slots := 0, locals := lo } D cl tys nw mk ad N a b (w_A ad N)) cc tb res → Wk (Gx l { frames := fr, cells := 0, slots := 0, locals := lo } D cl tys nw mk ad N a b (w_A ad N)) 0 (lv_args 0 av) [] σ) :
    Ci l y ws fr lo D cl tys nw mk ad N av σ res := by
  refine c_body hy hw hn fun a b hQ hm K => body a b hm K ?_
  intro pc lv hdg _ H locs ls hP hS hl
  have h := W.iret (p := a.1) (l := l) (e := a.2.1) (R := { frames := fr, cells := 0, slots := 0, locals := lo }) (s := a.2.2.1) (m := a.2.2.2) (args := b.1) (below := b.2.1) (meth := b.2.2.1) (c := b.2.2.2.1) (H := H) (locs := locs) (cells := 0) (slots := 0) (v := res.1) (Qc := c_Qi D cl mk ad N res) (free := w_A ad N) (pc := pc) (ls := ls) K.1 K.2.1 K.2.2.2.2.2.1 (fun t ht _ => ⟨⟨res.1, res.2, rfl, rfl, (show va_P D cl (w_d mk ad N res.2) t.heap by rw [ht]; exact hP)⟩, hS.F ht⟩) hS.2.2 hdg K.2.2.2.2.2.2.1
  rw [← hQ] at h
  exact h
theorem c_bool {res : Int32 × St} (hy : plainName y.cls = true) (hw : ws = Cond.code y cc maxL (some .boolean) :: ws') (hn : (lg_sl av).length ≤ maxL)
    (body : ∀ (a : Program × Env × State × MethodId) (b : Array Value × List Frame × Method × Code × (State → Prop) × Nat), b.2.2.2.2.2 = maxL → KS (Gx l { frames := fr, cells := 0, slots := 0, locals := lo } D cl tys nw mk ad N a b (w_A ad N)) cc y.cls ws (some .boolean) → HRi (Gx l { frames := fr, cells := 0, slots := 0, locals := lo } D cl tys nw mk ad N a b (w_A ad N)) cc zb res → Wk (Gx l { frames := fr, cells := 0, slots := 0, locals := lo } D cl tys nw mk ad N a b (w_A ad N)) 0 (lv_args 0 av) [] σ) :
    Ci l y ws fr lo D cl tys nw mk ad N av σ res := by
  refine c_body hy hw hn fun a b hQ hm K => body a b hm K ?_
  intro pc lv hdg hz H locs ls hP hS hl
  have h := W.zret (p := a.1) (l := l) (e := a.2.1) (R := { frames := fr, cells := 0, slots := 0, locals := lo }) (s := a.2.2.1) (m := a.2.2.2) (args := b.1) (below := b.2.1) (meth := b.2.2.1) (c := b.2.2.2.1) (H := H) (locs := locs) (cells := 0) (slots := 0) (v := res.1) (Qc := c_Qi D cl mk ad N res) (free := w_A ad N) (pc := pc) (ls := ls) K.1 K.2.1 K.2.2.2.2.2.1 hz.n (fun t ht _ => ⟨⟨res.1, res.2, rfl, rfl, (show va_P D cl (w_d mk ad N res.2) t.heap by rw [ht]; exact hP)⟩, hS.F ht⟩) hS.2.2 hdg K.2.2.2.2.2.2.1
  rw [← hQ] at h
  exact h
theorem c_void {res : Int32 × St} (hy : plainName y.cls = true) (hw : ws = Cond.code y cc maxL none :: ws') (hn : (lg_sl av).length ≤ maxL)
    (body : ∀ (a : Program × Env × State × MethodId) (b : Array Value × List Frame × Method × Code × (State → Prop) × Nat), b.2.2.2.2.2 = maxL → KS (Gx l { frames := fr, cells := 0, slots := 0, locals := lo } D cl tys nw mk ad N a b (w_A ad N)) cc y.cls ws none → HRv (Gx l { frames := fr, cells := 0, slots := 0, locals := lo } D cl tys nw mk ad N a b (w_A ad N)) cc res → Wk (Gx l { frames := fr, cells := 0, slots := 0, locals := lo } D cl tys nw mk ad N a b (w_A ad N)) 0 (lv_args 0 av) [] σ) :
    Cv l y ws fr lo D cl tys nw mk ad N av σ res := by
  refine c_body hy hw hn fun a b hQ hm K => body a b hm K ?_
  intro pc lv hdg H locs ls hP hS hl
  have h := W.vret (p := a.1) (l := l) (e := a.2.1) (R := { frames := fr, cells := 0, slots := 0, locals := lo }) (s := a.2.2.1) (m := a.2.2.2) (args := b.1) (below := b.2.1) (meth := b.2.2.1) (c := b.2.2.2.1) (H := H) (locs := locs) (cells := 0) (slots := 0) (Qc := c_Qv D cl mk ad N res) (free := w_A ad N) (pc := pc) (ls := ls) K.1 K.2.1 K.2.2.2.2.2.1 (fun t ht _ => ⟨⟨res.2, rfl, rfl, (show va_P D cl (w_d mk ad N res.2) t.heap by rw [ht]; exact hP)⟩, hS.F ht⟩) hS.2.2 hdg K.2.2.2.2.2.2.1
  rw [← hQ] at h
  exact h
theorem c_long {res : Int64 × St} (hy : plainName y.cls = true) (hw : ws = Cond.code y cc maxL (some .long) :: ws') (hn : (lg_sl av).length ≤ maxL)
    (body : ∀ (a : Program × Env × State × MethodId) (b : Array Value × List Frame × Method × Code × (State → Prop) × Nat), b.2.2.2.2.2 = maxL → KS (Gx l { frames := fr, cells := 0, slots := 0, locals := lo } D cl tys nw mk ad N a b (w_A ad N)) cc y.cls ws (some .long) → HRl (Gx l { frames := fr, cells := 0, slots := 0, locals := lo } D cl tys nw mk ad N a b (w_A ad N)) cc res → Wk (Gx l { frames := fr, cells := 0, slots := 0, locals := lo } D cl tys nw mk ad N a b (w_A ad N)) 0 (lv_args 0 av) [] σ) :
    Cl l y ws fr lo D cl tys nw mk ad N av σ res := by
  refine c_body hy hw hn fun a b hQ hm K => body a b hm K ?_
  intro pc lv hdg H locs ls hP hS hl
  have h := W.lret (p := a.1) (l := l) (e := a.2.1) (R := { frames := fr, cells := 0, slots := 0, locals := lo }) (s := a.2.2.1) (m := a.2.2.2) (args := b.1) (below := b.2.1) (meth := b.2.2.1) (c := b.2.2.2.1) (H := H) (locs := locs) (cells := 0) (slots := 0) (v := res.1) (Qc := c_Ql D cl mk ad N res) (free := w_A ad N) (pc := pc) (ls := ls) K.1 K.2.1 K.2.2.2.2.2.1 (fun t ht _ => ⟨⟨res.1, res.2, rfl, rfl, (show va_P D cl (w_d mk ad N res.2) t.heap by rw [ht]; exact hP)⟩, hS.F ht⟩) hS.2.2 hdg K.2.2.2.2.2.2.1
  rw [← hQ] at h
  exact h
end CCC
theorem c_P_blind {D : va_G} {cl : List vw_C} {tys : List (ClassId × FieldType)} {nw : List Cond} {mk : Mk} {ad : Nat → Nat} {N : Nat} {av : List Value} {σ : St} : FrameBlind (c_P D cl tys nw mk ad N av σ) := fun a U g mk q => by
  obtain ⟨q0, qP, qK, qN, qD⟩ := q
  exact ⟨q0, qP, va_K.moved (u := U) (U := U.calling g mk a) (Vm.Alike.refl U.vm) qK, nwP.same (s := U) (U := U.calling g mk a) rfl qN, qD⟩
section CAL
variable {Γ : Cx} {cc : ByteArray} {own : String} {Ts : List Cond} {ret : Option FieldType} {pc : Nat} {lv : List (Nat × Value)} {st : List Value} {σ : St} {y : MethodName} {ws : List Cond} {fr lo maxL n index : Nat} {bytes : ByteArray} {ret2 : Option FieldType}
theorem k_free (K : KS Γ cc own Ts ret) : ∀ q, w_A (x_ad Γ) (x_N Γ) q → x_A Γ q := fun q h => by
  obtain ⟨i, hi, rfl⟩ := h
  exact K.as i hi
/-- an object's method, an int or a truth value comes back -/
theorem k_callVi (K : KS Γ cc own Ts ret) {C : String} {T : u_T} {NN : Nat} {fs : List Value} {As stk : List Value} {r : Int32} {u : St} (i ci : Nat) (hi : i < x_N Γ) (hm : x_mk Γ i (σ i) = .inr (ci, fs)) (hc : (x_cl Γ)[ci]? = some (C, T, NN))
    (hM : Ci (x_l Γ) y ws fr lo (x_D Γ) (x_cl Γ) (x_ty Γ) (x_nw Γ) (x_mk Γ) (x_ad Γ) (x_N Γ) (.ref (x_ad Γ i) :: As) σ (r, u))
    (cw : CallW (x_R Γ) (x_s Γ) (x_args Γ) own C index y bytes maxL ret2 ws { frames := fr, cells := 0, slots := 0, locals := lo } 0 0 n) (hn : As.length = n) (hs : As.reverse ++ .ref (x_ad Γ i) :: st = stk) (hst : (st.map fun v => v.category).sum ≤ 8) (hdg : decode cc pc = .ok (.invokevirtual index, 3))
    (kk : Wk Γ (pc + 3) lv (.int r :: st) u) : Wk Γ pc lv stk σ := by
  subst hs
  intro H locs ls hP hS hl
  refine va_calli (va_runV (As := As) (rest := st) (b := x_ad Γ i) ⟨K.1, K.2.1, K.2.2.1, K.2.2.2.1, K.ts⟩ hM cw ⟨c_P_blind, va_recv K.vk hP hc (w_d_get hi hm), fun U hU hW => ⟨rfl, by rw [hU]; exact hP, va_K.moved hW.alike K.vk, K.nw.warm hW, K.ds⟩⟩ rfl hn hl.1 rfl (lv_room hst) hdg ⟨Nat.zero_le _, Nat.zero_le _⟩) hS (fun q _ h => k_free K q h) (k_free K) (fun r1 u1 t H1 locs1 ht hvm hw hB hz1 hk1 hS1 => ?_)
  cases hw
  rw [ht] at hB
  exact kk H1 locs1 ls hB hS1 hl
theorem k_callVv (K : KS Γ cc own Ts ret) {C : String} {T : u_T} {NN : Nat} {fs : List Value} {As stk : List Value} {r : Int32} {u : St} (i ci : Nat) (hi : i < x_N Γ) (hm : x_mk Γ i (σ i) = .inr (ci, fs)) (hc : (x_cl Γ)[ci]? = some (C, T, NN))
    (hM : Cv (x_l Γ) y ws fr lo (x_D Γ) (x_cl Γ) (x_ty Γ) (x_nw Γ) (x_mk Γ) (x_ad Γ) (x_N Γ) (.ref (x_ad Γ i) :: As) σ (r, u))
    (cw : CallW (x_R Γ) (x_s Γ) (x_args Γ) own C index y bytes maxL ret2 ws { frames := fr, cells := 0, slots := 0, locals := lo } 0 0 n) (hn : As.length = n) (hs : As.reverse ++ .ref (x_ad Γ i) :: st = stk) (hst : (st.map fun v => v.category).sum ≤ 8) (hdg : decode cc pc = .ok (.invokevirtual index, 3))
    (kk : Wk Γ (pc + 3) lv st u) : Wk Γ pc lv stk σ := by
  subst hs
  intro H locs ls hP hS hl
  refine va_callv (va_runV (As := As) (rest := st) (b := x_ad Γ i) ⟨K.1, K.2.1, K.2.2.1, K.2.2.2.1, K.ts⟩ hM cw ⟨c_P_blind, va_recv K.vk hP hc (w_d_get hi hm), fun U hU hW => ⟨rfl, by rw [hU]; exact hP, va_K.moved hW.alike K.vk, K.nw.warm hW, K.ds⟩⟩ rfl hn hl.1 rfl (lv_room hst) hdg ⟨Nat.zero_le _, Nat.zero_le _⟩) hS (fun q _ h => k_free K q h) (k_free K) (fun u1 t H1 locs1 ht hvm hw hB hz1 hk1 hS1 => ?_)
  cases hw
  rw [ht] at hB
  exact kk H1 locs1 ls hB hS1 hl
/-- a static method -/
theorem k_callSi (K : KS Γ cc own Ts ret) {As stk : List Value} {r : Int32} {u : St}
    (hM : Ci (x_l Γ) y ws fr lo (x_D Γ) (x_cl Γ) (x_ty Γ) (x_nw Γ) (x_mk Γ) (x_ad Γ) (x_N Γ) As σ (r, u))
    (cw : CallB (x_R Γ) (x_s Γ) (x_args Γ) own index y bytes maxL ret2 ws { frames := fr, cells := 0, slots := 0, locals := lo } 0 0 n ∧ (Cond.static y).before (x_args Γ) (x_s Γ) = true) (hn : As.length = n) (hs : As.reverse ++ st = stk) (hst : (st.map fun v => v.category).sum ≤ 8) (hdg : decode cc pc = .ok (.invokestatic index, 3))
    (kk : Wk Γ (pc + 3) lv (.int r :: st) u) : Wk Γ pc lv stk σ := by
  subst hs
  intro H locs ls hP hS hl
  refine va_calli (va_runS (As := As) (rest := st) ⟨K.1, K.2.1, K.2.2.1, K.2.2.2.1, K.ts⟩ hM cw ⟨c_P_blind, fun U hU hW => ⟨rfl, by rw [hU]; exact hP, va_K.moved hW.alike K.vk, K.nw.warm hW, K.ds⟩⟩ rfl hn hl.1 rfl (lv_room hst) hdg ⟨Nat.zero_le _, Nat.zero_le _⟩) hS (fun q _ h => k_free K q h) (k_free K) (fun r1 u1 t H1 locs1 ht hvm hw hB hz1 hk1 hS1 => ?_)
  cases hw
  rw [ht] at hB
  exact kk H1 locs1 ls hB hS1 hl
theorem k_callSv (K : KS Γ cc own Ts ret) {As stk : List Value} {r : Int32} {u : St}
    (hM : Cv (x_l Γ) y ws fr lo (x_D Γ) (x_cl Γ) (x_ty Γ) (x_nw Γ) (x_mk Γ) (x_ad Γ) (x_N Γ) As σ (r, u))
    (cw : CallB (x_R Γ) (x_s Γ) (x_args Γ) own index y bytes maxL ret2 ws { frames := fr, cells := 0, slots := 0, locals := lo } 0 0 n ∧ (Cond.static y).before (x_args Γ) (x_s Γ) = true) (hn : As.length = n) (hs : As.reverse ++ st = stk) (hst : (st.map fun v => v.category).sum ≤ 8) (hdg : decode cc pc = .ok (.invokestatic index, 3))
    (kk : Wk Γ (pc + 3) lv st u) : Wk Γ pc lv stk σ := by
  subst hs
  intro H locs ls hP hS hl
  refine va_callv (va_runS (As := As) (rest := st) ⟨K.1, K.2.1, K.2.2.1, K.2.2.2.1, K.ts⟩ hM cw ⟨c_P_blind, fun U hU hW => ⟨rfl, by rw [hU]; exact hP, va_K.moved hW.alike K.vk, K.nw.warm hW, K.ds⟩⟩ rfl hn hl.1 rfl (lv_room hst) hdg ⟨Nat.zero_le _, Nat.zero_le _⟩) hS (fun q _ h => k_free K q h) (k_free K) (fun u1 t H1 locs1 ht hvm hw hB hz1 hk1 hS1 => ?_)
  cases hw
  rw [ht] at hB
  exact kk H1 locs1 ls hB hS1 hl
end CAL
/-! the models' words -/
def gd {α : Type} (c : Prop) [Decidable c] (k : Option α) : Option α := if c then k else none
def bd {ρ α : Type} (o : Option (ρ × St)) (k : ρ → St → Option α) : Option α := match o with
  | none => none
  | some q => k q.1 q.2
theorem gd_some {α : Type} {c : Prop} [Decidable c] {k : Option α} {r : α} (h : gd c k = some r) : c ∧ k = some r := by
  unfold gd at h
  by_cases hc : c
  · rw [if_pos hc] at h; exact ⟨hc, h⟩
  · rw [if_neg hc] at h; cases h
theorem bd_some {ρ α : Type} {o : Option (ρ × St)} {k : ρ → St → Option α} {r : α} (h : bd o k = some r) : ∃ q : ρ × St, o = some q ∧ k q.1 q.2 = some r := by
  unfold bd at h
  cases o with
  | none => cases h
  | some q => exact ⟨q, rfl, h⟩
theorem if_t {α : Type} {c : Prop} [Decidable c] {a b r : α} (hc : c) (h : (if c then a else b) = r) : a = r := by rw [if_pos hc] at h; exact h
theorem if_f {α : Type} {c : Prop} [Decidable c] {a b r : α} (hc : ¬ c) (h : (if c then a else b) = r) : b = r := by rw [if_neg hc] at h; exact h
/-- a name for a value -/
def lt {α β : Type} (v : α) (k : α → Option β) : Option β := k v
theorem lt_some {α β : Type} {v : α} {k : α → Option β} {r : β} (h : lt v k = some r) : k v = some r := h
/-- how often a loop may go round -/
def FU : Nat := 20000
/-- a long number as two ints -/
def l_hi (v : Int64) : Int32 := Int32.ofBitVec (v.toBitVec.extractLsb' 32 32)
def l_lo (v : Int64) : Int32 := Int32.ofBitVec (v.toBitVec.extractLsb' 0 32)
def l_mk (a b : Int32) : Int64 := Int64.ofBitVec (a.toBitVec ++ b.toBitVec)
theorem l_mk_eq (v : Int64) : l_mk (l_hi v) (l_lo v) = v := by
  unfold l_mk l_hi l_lo
  have : (Int32.ofBitVec (v.toBitVec.extractLsb' 32 32)).toBitVec ++ (Int32.ofBitVec (v.toBitVec.extractLsb' 0 32)).toBitVec = v.toBitVec := by
    simp only [Int32.toBitVec_ofBitVec]
    apply BitVec.eq_of_getLsbD_eq
    intro i hi
    rw [BitVec.getLsbD_append]
    by_cases h : i < 32
    · simp [h, BitVec.getLsbD_extractLsb']
    · simp [h, BitVec.getLsbD_extractLsb']
      have : 32 + (i - 32) = i := by omega
      rw [this]
      have h3 : i - 32 < 32 := by omega
      simp [h3]
  rw [this]
  rfl
def s_upl (σ : St) (i : Nat) (v : Int64) : St := s_row σ i (fun j => if j = 100 then l_hi v else if j = 101 then l_lo v else σ i j)
/-- may so much be copied -/
abbrev cp_ok (sp dp n : Int32) (n0 n1 : Nat) : Prop := (¬ sp < 0 ∧ ¬ dp < 0 ∧ ¬ n < 0) ∧ nx sp + nx n ≤ n0 ∧ nx dp + nx n ≤ n1
section KK2
variable {Γ : Cx} {cc : ByteArray} {own : String} {Ts : List Cond} {ret : Option FieldType} {pc : Nat} {lv lv' : List (Nat × Value)} {st : List Value} {σ : St} {x y : Int32}
theorem k_case {x y : Int32} (kt : x = y → Wk Γ pc lv (.int x :: st) σ) (kf : ¬ x = y → Wk Γ pc lv (.int x :: st) σ) : Wk Γ pc lv (.int x :: st) σ := (Classical.em (x = y)).elim kt kf
theorem k_putI (K : KS Γ cc own Ts ret) (i ci k : Nat) {C : String} {T : u_T} {N index : Nat} {fs : List Value} (ty0 : Nat → FieldType) (hty : ∀ k, k < N → parseFieldDescriptor (T k).2.2.1 = some (ty0 k)) (hnm : ∀ a, a < N → ∀ b, b < N → a ≠ b → (T a).2.1 ≠ (T b).2.1) (hin : ∀ w ∈ u_ws C T N, w ∈ Ts) (hi : i < x_N Γ) (hm : x_mk Γ i (σ i) = .inr (ci, fs)) (hc : (x_cl Γ)[ci]? = some (C, T, N)) (hk : k < N) (hlink : Cond.fieldLink own index (T k).1 (T k).2.1 (T k).2.2.1 ∈ Ts) (hfin : (T k).2.2.2 = false) (hd : parseFieldDescriptor (T k).2.2.1 = some .int) (hl0 : k < fs.length) (he : x_mk Γ i (upd (σ i) k x) = .inr (ci, fs.set k (.int x))) (hdg : decode cc pc = .ok (.putfield index, 3)) (kk : Wk Γ (pc + 3) lv st (s_up σ i k x)) : Wk Γ pc lv (.int x :: .ref (x_ad Γ i) :: st) σ := k_put K i ci k ty0 hty hnm hin hi hm hc hk hlink hfin hd (vp_nar_int x) rfl hl0 he.symm hdg (by rw [← s_up_row]; exact kk)
theorem k_putZ (K : KS Γ cc own Ts ret) (i ci k : Nat) {C : String} {T : u_T} {N index : Nat} {fs : List Value} (ty0 : Nat → FieldType) (hty : ∀ k, k < N → parseFieldDescriptor (T k).2.2.1 = some (ty0 k)) (hnm : ∀ a, a < N → ∀ b, b < N → a ≠ b → (T a).2.1 ≠ (T b).2.1) (hin : ∀ w ∈ u_ws C T N, w ∈ Ts) (hi : i < x_N Γ) (hm : x_mk Γ i (σ i) = .inr (ci, fs)) (hc : (x_cl Γ)[ci]? = some (C, T, N)) (hk : k < N) (hlink : Cond.fieldLink own index (T k).1 (T k).2.1 (T k).2.2.1 ∈ Ts) (hfin : (T k).2.2.2 = false) (hd : parseFieldDescriptor (T k).2.2.1 = some .boolean) (hl0 : k < fs.length) (hz : zb x) (hz2 : fits .boolean (.int x) = true) (he : x_mk Γ i (upd (σ i) k x) = .inr (ci, fs.set k (.int x))) (hdg : decode cc pc = .ok (.putfield index, 3)) (kk : Wk Γ (pc + 3) lv st (s_up σ i k x)) : Wk Γ pc lv (.int x :: .ref (x_ad Γ i) :: st) σ := k_put K i ci k ty0 hty hnm hin hi hm hc hk hlink hfin hd hz.n hz2 hl0 he.symm hdg (by rw [← s_up_row]; exact kk)
theorem k_putL (K : KS Γ cc own Ts ret) (i ci k : Nat) {C : String} {T : u_T} {N index : Nat} {fs : List Value} {z : Int64} (ty0 : Nat → FieldType) (hty : ∀ k, k < N → parseFieldDescriptor (T k).2.2.1 = some (ty0 k)) (hnm : ∀ a, a < N → ∀ b, b < N → a ≠ b → (T a).2.1 ≠ (T b).2.1) (hin : ∀ w ∈ u_ws C T N, w ∈ Ts) (hi : i < x_N Γ) (hm : x_mk Γ i (σ i) = .inr (ci, fs)) (hc : (x_cl Γ)[ci]? = some (C, T, N)) (hk : k < N) (hlink : Cond.fieldLink own index (T k).1 (T k).2.1 (T k).2.2.1 ∈ Ts) (hfin : (T k).2.2.2 = false) (hd : parseFieldDescriptor (T k).2.2.1 = some .long) (hl0 : k < fs.length) (he : x_mk Γ i (fun j => if j = 100 then l_hi z else if j = 101 then l_lo z else σ i j) = .inr (ci, fs.set k (.long z))) (hdg : decode cc pc = .ok (.putfield index, 3)) (kk : Wk Γ (pc + 3) lv st (s_upl σ i z)) : Wk Γ pc lv (.long z :: .ref (x_ad Γ i) :: st) σ := k_put K i ci k ty0 hty hnm hin hi hm hc hk hlink hfin hd rfl rfl hl0 he.symm hdg kk
theorem k_copy (K : KS Γ cc own Ts ret) {sp dp n : Int32} {index n0 n1 : Nat} {cA : ClassId} (i j : Nat) (hi : i < x_N Γ) (hj : j < x_N Γ) (hm0 : ∀ f, x_mk Γ i f = .inl (cA, n0, .inl f)) (hm1 : ∀ f, x_mk Γ j f = .inl (cA, n1, .inl f)) (hl1 : Cond.methodLink own index arraycopyName ∈ Ts) (hl2 : Cond.native arraycopyName ∈ Ts) (hl3 : Cond.static arraycopyName ∈ Ts) (hl4 : Cond.initialized "java/lang/System" ∈ Ts) (ht : (x_ty Γ)[0]? = some (cA, .int)) (hg : cp_ok sp dp n n0 n1) (hf : 1 ≤ (x_R Γ).frames) (hlo : (st.map fun v => v.category).sum + (nativeFrameWords "java/lang/System" "arraycopy" 5 + 11) ≤ (x_R Γ).locals) (hdg : decode cc pc = .ok (.invokestatic index, 3))
    (kk : Wk Γ (pc + 3) lv st (s_row σ j (va_cpy (σ i) (σ j) (nx sp) (nx dp) (nx n)))) : Wk Γ pc lv (.int n :: .int dp :: .ref (x_ad Γ j) :: .int sp :: .ref (x_ad Γ i) :: st) σ := fun H locs ls hP hS hl =>
  va_copyi K.1 K.2.1 (K.2.2.1.trans hl.1.symm) K.2.2.2.1 (K.ts _ hl1) (K.ts _ hl2) (K.ts _ hl3) (K.ts _ hl4) K.vk hP (w_d_D σ K.ds K.as) hS i j 0 0 (w_d_get hi (hm0 _)) (w_d_get hj (hm1 _)) ht ht rfl hg.1.1 hg.1.2.1 hg.1.2.2 hg.2.1 hg.2.2 (fun _ _ => rfl) hf hlo hdg (fun H1 locs1 hP1 _ hS1 => kk H1 locs1 ls (k_put0 (hm1 _).symm hP1) hS1 hl)
end KK2
theorem sw_out2 {x : Int32} (q0 : ¬ x = 0) (q1 : ¬ x = 1) : x.toInt < 0 ∨ 1 < x.toInt := by
  rcases Int.lt_or_le x.toInt 0 with h | h
  · exact Or.inl h
  · rcases Int.lt_or_le 1 x.toInt with h2 | h2
    · exact Or.inr h2
    · exfalso
      have hx : x.toInt = 0 ∨ x.toInt = 1 := by omega
      rcases hx with e | e
      · exact q0 (Int32.toInt_inj.mp (by rw [e]; rfl))
      · exact q1 (Int32.toInt_inj.mp (by rw [e]; rfl))
theorem sw_out3 {x : Int32} (q0 : ¬ x = 0) (q1 : ¬ x = 1) (q2 : ¬ x = 2) : x.toInt < 0 ∨ 2 < x.toInt := by
  rcases Int.lt_or_le x.toInt 0 with h | h
  · exact Or.inl h
  · rcases Int.lt_or_le 2 x.toInt with h2 | h2
    · exact Or.inr h2
    · exfalso
      have hx : x.toInt = 0 ∨ x.toInt = 1 ∨ x.toInt = 2 := by omega
      rcases hx with e | e | e
      · exact q0 (Int32.toInt_inj.mp (by rw [e]; rfl))
      · exact q1 (Int32.toInt_inj.mp (by rw [e]; rfl))
      · exact q2 (Int32.toInt_inj.mp (by rw [e]; rfl))
theorem sw_out4 {x : Int32} (q0 : ¬ x = 0) (q1 : ¬ x = 1) (q2 : ¬ x = 2) (q3 : ¬ x = 3) : x.toInt < 0 ∨ 3 < x.toInt := by
  rcases Int.lt_or_le x.toInt 0 with h | h
  · exact Or.inl h
  · rcases Int.lt_or_le 3 x.toInt with h2 | h2
    · exact Or.inr h2
    · exfalso
      have hx : x.toInt = 0 ∨ x.toInt = 1 ∨ x.toInt = 2 ∨ x.toInt = 3 := by omega
      rcases hx with e | e | e | e
      · exact q0 (Int32.toInt_inj.mp (by rw [e]; rfl))
      · exact q1 (Int32.toInt_inj.mp (by rw [e]; rfl))
      · exact q2 (Int32.toInt_inj.mp (by rw [e]; rfl))
      · exact q3 (Int32.toInt_inj.mp (by rw [e]; rfl))
theorem sw_out5 {x : Int32} (q0 : ¬ x = 0) (q1 : ¬ x = 1) (q2 : ¬ x = 2) (q3 : ¬ x = 3) (q4 : ¬ x = 4) : x.toInt < 0 ∨ 4 < x.toInt := by
  rcases Int.lt_or_le x.toInt 0 with h | h
  · exact Or.inl h
  · rcases Int.lt_or_le 4 x.toInt with h2 | h2
    · exact Or.inr h2
    · exfalso
      have hx : x.toInt = 0 ∨ x.toInt = 1 ∨ x.toInt = 2 ∨ x.toInt = 3 ∨ x.toInt = 4 := by omega
      rcases hx with e | e | e | e | e
      · exact q0 (Int32.toInt_inj.mp (by rw [e]; rfl))
      · exact q1 (Int32.toInt_inj.mp (by rw [e]; rfl))
      · exact q2 (Int32.toInt_inj.mp (by rw [e]; rfl))
      · exact q3 (Int32.toInt_inj.mp (by rw [e]; rfl))
      · exact q4 (Int32.toInt_inj.mp (by rw [e]; rfl))
theorem sw_out6 {x : Int32} (q0 : ¬ x = 0) (q1 : ¬ x = 1) (q2 : ¬ x = 2) (q3 : ¬ x = 3) (q4 : ¬ x = 4) (q5 : ¬ x = 5) : x.toInt < 0 ∨ 5 < x.toInt := by
  rcases Int.lt_or_le x.toInt 0 with h | h
  · exact Or.inl h
  · rcases Int.lt_or_le 5 x.toInt with h2 | h2
    · exact Or.inr h2
    · exfalso
      have hx : x.toInt = 0 ∨ x.toInt = 1 ∨ x.toInt = 2 ∨ x.toInt = 3 ∨ x.toInt = 4 ∨ x.toInt = 5 := by omega
      rcases hx with e | e | e | e | e | e
      · exact q0 (Int32.toInt_inj.mp (by rw [e]; rfl))
      · exact q1 (Int32.toInt_inj.mp (by rw [e]; rfl))
      · exact q2 (Int32.toInt_inj.mp (by rw [e]; rfl))
      · exact q3 (Int32.toInt_inj.mp (by rw [e]; rfl))
      · exact q4 (Int32.toInt_inj.mp (by rw [e]; rfl))
      · exact q5 (Int32.toInt_inj.mp (by rw [e]; rfl))
theorem sw_out7 {x : Int32} (q0 : ¬ x = 0) (q1 : ¬ x = 1) (q2 : ¬ x = 2) (q3 : ¬ x = 3) (q4 : ¬ x = 4) (q5 : ¬ x = 5) (q6 : ¬ x = 6) : x.toInt < 0 ∨ 6 < x.toInt := by
  rcases Int.lt_or_le x.toInt 0 with h | h
  · exact Or.inl h
  · rcases Int.lt_or_le 6 x.toInt with h2 | h2
    · exact Or.inr h2
    · exfalso
      have hx : x.toInt = 0 ∨ x.toInt = 1 ∨ x.toInt = 2 ∨ x.toInt = 3 ∨ x.toInt = 4 ∨ x.toInt = 5 ∨ x.toInt = 6 := by omega
      rcases hx with e | e | e | e | e | e | e
      · exact q0 (Int32.toInt_inj.mp (by rw [e]; rfl))
      · exact q1 (Int32.toInt_inj.mp (by rw [e]; rfl))
      · exact q2 (Int32.toInt_inj.mp (by rw [e]; rfl))
      · exact q3 (Int32.toInt_inj.mp (by rw [e]; rfl))
      · exact q4 (Int32.toInt_inj.mp (by rw [e]; rfl))
      · exact q5 (Int32.toInt_inj.mp (by rw [e]; rfl))
      · exact q6 (Int32.toInt_inj.mp (by rw [e]; rfl))
theorem sw_outL3 {x : Int32} (q0 : ¬ x = 2) (q1 : ¬ x = 3) (q2 : ¬ x = 4) : x.toInt < 2 ∨ 4 < x.toInt := by
  rcases Int.lt_or_le x.toInt 2 with h | h
  · exact Or.inl h
  · rcases Int.lt_or_le 4 x.toInt with h2 | h2
    · exact Or.inr h2
    · exfalso
      have hx : x.toInt = 2 ∨ x.toInt = 3 ∨ x.toInt = 4 := by omega
      rcases hx with e | e | e
      · exact q0 (Int32.toInt_inj.mp (by rw [e]; rfl))
      · exact q1 (Int32.toInt_inj.mp (by rw [e]; rfl))
      · exact q2 (Int32.toInt_inj.mp (by rw [e]; rfl))

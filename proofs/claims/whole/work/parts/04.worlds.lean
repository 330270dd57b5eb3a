/-! THE TWO WORLDS: the reference (M) and the class (S) -/
def mkM (cI cZ : ClassId) (ad : Nat → Nat) : Mk := fun i f => match i with
  | 0 => .inr (12, [.ref (ad 1), .ref (ad 2), .ref (ad 3), .int (f 3), .int (f 4), .int (f 5), .ref (ad 4), .ref (ad 5), .int (f 8), .ref (ad 6), .int (f 10), .ref (ad 7), .ref (ad 8), .ref (ad 9), .ref (ad 10), .int (f 15), .long (l_mk (f 100) (f 101)), .int (f 17), .int (f 18), .int (f 19), .int (f 20), .int (f 21), .ref (ad 11), .ref (ad 12), .ref (ad 13), .int (f 25), .int (f 26), .ref (ad 14), .int (f 28), .ref (ad 15), .int (f 30), .int (f 31), .int (f 32), .int (f 33), .int (f 34), .ref (ad 16)])
  | 1 => .inl (cI, 5019, .inl f)
  | 2 => .inl (cZ, 2, .inl f)
  | 3 => .inl (cI, 200, .inl f)
  | 4 => .inl (cI, 30, .inl f)
  | 5 => .inl (cI, 30, .inl f)
  | 6 => .inl (cI, 2, .inl f)
  | 7 => .inl (cI, 5, .inl f)
  | 8 => .inl (cI, 5, .inl f)
  | 9 => .inl (cI, 5, .inl f)
  | 10 => .inl (cI, 18, .inl f)
  | 11 => .inl (cI, 30, .inl f)
  | 12 => .inl (cI, 2, .inl f)
  | 13 => .inl (cI, 30, .inl f)
  | 14 => .inl (cI, 15, .inl f)
  | 15 => .inl (cI, 3, .inl f)
  | 16 => .inl (cI, 10, .inl f)
  | _ => .inr (0, [])
abbrev tysM (cI cZ : ClassId) : List (ClassId × FieldType) := [(cI, .int), (cZ, .boolean)]
abbrev nwM : List Cond := []
abbrev GM (l : Launch) (fr lo : Nat) (D : va_G) (cI cZ : ClassId) (ad : Nat → Nat) (a : Program × Env × State × MethodId) (b : Array Value × List Frame × Method × Code × (State → Prop) × Nat) (A : Nat → Prop) : Cx := Gx l { frames := fr, cells := 0, slots := 0, locals := lo } D vwCl (tysM cI cZ) nwM (mkM cI cZ ad) ad 17 a b A
section WM
variable (cI cZ : ClassId) (ad : Nat → Nat)
theorem mM_0 (f : Nat → Int32) : mkM cI cZ ad 0 f = .inr (12, [.ref (ad 1), .ref (ad 2), .ref (ad 3), .int (f 3), .int (f 4), .int (f 5), .ref (ad 4), .ref (ad 5), .int (f 8), .ref (ad 6), .int (f 10), .ref (ad 7), .ref (ad 8), .ref (ad 9), .ref (ad 10), .int (f 15), .long (l_mk (f 100) (f 101)), .int (f 17), .int (f 18), .int (f 19), .int (f 20), .int (f 21), .ref (ad 11), .ref (ad 12), .ref (ad 13), .int (f 25), .int (f 26), .ref (ad 14), .int (f 28), .ref (ad 15), .int (f 30), .int (f 31), .int (f 32), .int (f 33), .int (f 34), .ref (ad 16)]) := rfl
theorem mM_1 (f : Nat → Int32) : mkM cI cZ ad 1 f = .inl (cI, 5019, .inl f) := rfl
theorem mM_2 (f : Nat → Int32) : mkM cI cZ ad 2 f = .inl (cZ, 2, .inl f) := rfl
theorem mM_3 (f : Nat → Int32) : mkM cI cZ ad 3 f = .inl (cI, 200, .inl f) := rfl
theorem mM_4 (f : Nat → Int32) : mkM cI cZ ad 4 f = .inl (cI, 30, .inl f) := rfl
theorem mM_5 (f : Nat → Int32) : mkM cI cZ ad 5 f = .inl (cI, 30, .inl f) := rfl
theorem mM_6 (f : Nat → Int32) : mkM cI cZ ad 6 f = .inl (cI, 2, .inl f) := rfl
theorem mM_7 (f : Nat → Int32) : mkM cI cZ ad 7 f = .inl (cI, 5, .inl f) := rfl
theorem mM_8 (f : Nat → Int32) : mkM cI cZ ad 8 f = .inl (cI, 5, .inl f) := rfl
theorem mM_9 (f : Nat → Int32) : mkM cI cZ ad 9 f = .inl (cI, 5, .inl f) := rfl
theorem mM_10 (f : Nat → Int32) : mkM cI cZ ad 10 f = .inl (cI, 18, .inl f) := rfl
theorem mM_11 (f : Nat → Int32) : mkM cI cZ ad 11 f = .inl (cI, 30, .inl f) := rfl
theorem mM_12 (f : Nat → Int32) : mkM cI cZ ad 12 f = .inl (cI, 2, .inl f) := rfl
theorem mM_13 (f : Nat → Int32) : mkM cI cZ ad 13 f = .inl (cI, 30, .inl f) := rfl
theorem mM_14 (f : Nat → Int32) : mkM cI cZ ad 14 f = .inl (cI, 15, .inl f) := rfl
theorem mM_15 (f : Nat → Int32) : mkM cI cZ ad 15 f = .inl (cI, 3, .inl f) := rfl
theorem mM_16 (f : Nat → Int32) : mkM cI cZ ad 16 f = .inl (cI, 10, .inl f) := rfl
theorem put_longM (g : Nat → Int32) (z : Int64) : mkM cI cZ ad 0 (fun j => if j = 100 then l_hi z else if j = 101 then l_lo z else g j) = .inr (12, [.ref (ad 1), .ref (ad 2), .ref (ad 3), .int (g 3), .int (g 4), .int (g 5), .ref (ad 4), .ref (ad 5), .int (g 8), .ref (ad 6), .int (g 10), .ref (ad 7), .ref (ad 8), .ref (ad 9), .ref (ad 10), .int (g 15), .long (l_mk (g 100) (g 101)), .int (g 17), .int (g 18), .int (g 19), .int (g 20), .int (g 21), .ref (ad 11), .ref (ad 12), .ref (ad 13), .int (g 25), .int (g 26), .ref (ad 14), .int (g 28), .ref (ad 15), .int (g 30), .int (g 31), .int (g 32), .int (g 33), .int (g 34), .ref (ad 16)].set 16 (.long z)) := by
  rw [mM_0]; simp [l_mk_eq]
theorem pM_0_3 (g : Nat → Int32) (v : Int32) : mkM cI cZ ad 0 (upd g 3 v) = .inr (12, [.ref (ad 1), .ref (ad 2), .ref (ad 3), .int (g 3), .int (g 4), .int (g 5), .ref (ad 4), .ref (ad 5), .int (g 8), .ref (ad 6), .int (g 10), .ref (ad 7), .ref (ad 8), .ref (ad 9), .ref (ad 10), .int (g 15), .long (l_mk (g 100) (g 101)), .int (g 17), .int (g 18), .int (g 19), .int (g 20), .int (g 21), .ref (ad 11), .ref (ad 12), .ref (ad 13), .int (g 25), .int (g 26), .ref (ad 14), .int (g 28), .ref (ad 15), .int (g 30), .int (g 31), .int (g 32), .int (g 33), .int (g 34), .ref (ad 16)].set 3 (.int v)) := rfl
theorem pM_0_4 (g : Nat → Int32) (v : Int32) : mkM cI cZ ad 0 (upd g 4 v) = .inr (12, [.ref (ad 1), .ref (ad 2), .ref (ad 3), .int (g 3), .int (g 4), .int (g 5), .ref (ad 4), .ref (ad 5), .int (g 8), .ref (ad 6), .int (g 10), .ref (ad 7), .ref (ad 8), .ref (ad 9), .ref (ad 10), .int (g 15), .long (l_mk (g 100) (g 101)), .int (g 17), .int (g 18), .int (g 19), .int (g 20), .int (g 21), .ref (ad 11), .ref (ad 12), .ref (ad 13), .int (g 25), .int (g 26), .ref (ad 14), .int (g 28), .ref (ad 15), .int (g 30), .int (g 31), .int (g 32), .int (g 33), .int (g 34), .ref (ad 16)].set 4 (.int v)) := rfl
theorem pM_0_5 (g : Nat → Int32) (v : Int32) : mkM cI cZ ad 0 (upd g 5 v) = .inr (12, [.ref (ad 1), .ref (ad 2), .ref (ad 3), .int (g 3), .int (g 4), .int (g 5), .ref (ad 4), .ref (ad 5), .int (g 8), .ref (ad 6), .int (g 10), .ref (ad 7), .ref (ad 8), .ref (ad 9), .ref (ad 10), .int (g 15), .long (l_mk (g 100) (g 101)), .int (g 17), .int (g 18), .int (g 19), .int (g 20), .int (g 21), .ref (ad 11), .ref (ad 12), .ref (ad 13), .int (g 25), .int (g 26), .ref (ad 14), .int (g 28), .ref (ad 15), .int (g 30), .int (g 31), .int (g 32), .int (g 33), .int (g 34), .ref (ad 16)].set 5 (.int v)) := rfl
theorem pM_0_8 (g : Nat → Int32) (v : Int32) : mkM cI cZ ad 0 (upd g 8 v) = .inr (12, [.ref (ad 1), .ref (ad 2), .ref (ad 3), .int (g 3), .int (g 4), .int (g 5), .ref (ad 4), .ref (ad 5), .int (g 8), .ref (ad 6), .int (g 10), .ref (ad 7), .ref (ad 8), .ref (ad 9), .ref (ad 10), .int (g 15), .long (l_mk (g 100) (g 101)), .int (g 17), .int (g 18), .int (g 19), .int (g 20), .int (g 21), .ref (ad 11), .ref (ad 12), .ref (ad 13), .int (g 25), .int (g 26), .ref (ad 14), .int (g 28), .ref (ad 15), .int (g 30), .int (g 31), .int (g 32), .int (g 33), .int (g 34), .ref (ad 16)].set 8 (.int v)) := rfl
theorem pM_0_10 (g : Nat → Int32) (v : Int32) : mkM cI cZ ad 0 (upd g 10 v) = .inr (12, [.ref (ad 1), .ref (ad 2), .ref (ad 3), .int (g 3), .int (g 4), .int (g 5), .ref (ad 4), .ref (ad 5), .int (g 8), .ref (ad 6), .int (g 10), .ref (ad 7), .ref (ad 8), .ref (ad 9), .ref (ad 10), .int (g 15), .long (l_mk (g 100) (g 101)), .int (g 17), .int (g 18), .int (g 19), .int (g 20), .int (g 21), .ref (ad 11), .ref (ad 12), .ref (ad 13), .int (g 25), .int (g 26), .ref (ad 14), .int (g 28), .ref (ad 15), .int (g 30), .int (g 31), .int (g 32), .int (g 33), .int (g 34), .ref (ad 16)].set 10 (.int v)) := rfl
theorem pM_0_15 (g : Nat → Int32) (v : Int32) : mkM cI cZ ad 0 (upd g 15 v) = .inr (12, [.ref (ad 1), .ref (ad 2), .ref (ad 3), .int (g 3), .int (g 4), .int (g 5), .ref (ad 4), .ref (ad 5), .int (g 8), .ref (ad 6), .int (g 10), .ref (ad 7), .ref (ad 8), .ref (ad 9), .ref (ad 10), .int (g 15), .long (l_mk (g 100) (g 101)), .int (g 17), .int (g 18), .int (g 19), .int (g 20), .int (g 21), .ref (ad 11), .ref (ad 12), .ref (ad 13), .int (g 25), .int (g 26), .ref (ad 14), .int (g 28), .ref (ad 15), .int (g 30), .int (g 31), .int (g 32), .int (g 33), .int (g 34), .ref (ad 16)].set 15 (.int v)) := rfl
theorem pM_0_17 (g : Nat → Int32) (v : Int32) : mkM cI cZ ad 0 (upd g 17 v) = .inr (12, [.ref (ad 1), .ref (ad 2), .ref (ad 3), .int (g 3), .int (g 4), .int (g 5), .ref (ad 4), .ref (ad 5), .int (g 8), .ref (ad 6), .int (g 10), .ref (ad 7), .ref (ad 8), .ref (ad 9), .ref (ad 10), .int (g 15), .long (l_mk (g 100) (g 101)), .int (g 17), .int (g 18), .int (g 19), .int (g 20), .int (g 21), .ref (ad 11), .ref (ad 12), .ref (ad 13), .int (g 25), .int (g 26), .ref (ad 14), .int (g 28), .ref (ad 15), .int (g 30), .int (g 31), .int (g 32), .int (g 33), .int (g 34), .ref (ad 16)].set 17 (.int v)) := rfl
theorem pM_0_18 (g : Nat → Int32) (v : Int32) : mkM cI cZ ad 0 (upd g 18 v) = .inr (12, [.ref (ad 1), .ref (ad 2), .ref (ad 3), .int (g 3), .int (g 4), .int (g 5), .ref (ad 4), .ref (ad 5), .int (g 8), .ref (ad 6), .int (g 10), .ref (ad 7), .ref (ad 8), .ref (ad 9), .ref (ad 10), .int (g 15), .long (l_mk (g 100) (g 101)), .int (g 17), .int (g 18), .int (g 19), .int (g 20), .int (g 21), .ref (ad 11), .ref (ad 12), .ref (ad 13), .int (g 25), .int (g 26), .ref (ad 14), .int (g 28), .ref (ad 15), .int (g 30), .int (g 31), .int (g 32), .int (g 33), .int (g 34), .ref (ad 16)].set 18 (.int v)) := rfl
theorem pM_0_19 (g : Nat → Int32) (v : Int32) : mkM cI cZ ad 0 (upd g 19 v) = .inr (12, [.ref (ad 1), .ref (ad 2), .ref (ad 3), .int (g 3), .int (g 4), .int (g 5), .ref (ad 4), .ref (ad 5), .int (g 8), .ref (ad 6), .int (g 10), .ref (ad 7), .ref (ad 8), .ref (ad 9), .ref (ad 10), .int (g 15), .long (l_mk (g 100) (g 101)), .int (g 17), .int (g 18), .int (g 19), .int (g 20), .int (g 21), .ref (ad 11), .ref (ad 12), .ref (ad 13), .int (g 25), .int (g 26), .ref (ad 14), .int (g 28), .ref (ad 15), .int (g 30), .int (g 31), .int (g 32), .int (g 33), .int (g 34), .ref (ad 16)].set 19 (.int v)) := rfl
theorem pM_0_20 (g : Nat → Int32) (v : Int32) : mkM cI cZ ad 0 (upd g 20 v) = .inr (12, [.ref (ad 1), .ref (ad 2), .ref (ad 3), .int (g 3), .int (g 4), .int (g 5), .ref (ad 4), .ref (ad 5), .int (g 8), .ref (ad 6), .int (g 10), .ref (ad 7), .ref (ad 8), .ref (ad 9), .ref (ad 10), .int (g 15), .long (l_mk (g 100) (g 101)), .int (g 17), .int (g 18), .int (g 19), .int (g 20), .int (g 21), .ref (ad 11), .ref (ad 12), .ref (ad 13), .int (g 25), .int (g 26), .ref (ad 14), .int (g 28), .ref (ad 15), .int (g 30), .int (g 31), .int (g 32), .int (g 33), .int (g 34), .ref (ad 16)].set 20 (.int v)) := rfl
theorem pM_0_21 (g : Nat → Int32) (v : Int32) : mkM cI cZ ad 0 (upd g 21 v) = .inr (12, [.ref (ad 1), .ref (ad 2), .ref (ad 3), .int (g 3), .int (g 4), .int (g 5), .ref (ad 4), .ref (ad 5), .int (g 8), .ref (ad 6), .int (g 10), .ref (ad 7), .ref (ad 8), .ref (ad 9), .ref (ad 10), .int (g 15), .long (l_mk (g 100) (g 101)), .int (g 17), .int (g 18), .int (g 19), .int (g 20), .int (g 21), .ref (ad 11), .ref (ad 12), .ref (ad 13), .int (g 25), .int (g 26), .ref (ad 14), .int (g 28), .ref (ad 15), .int (g 30), .int (g 31), .int (g 32), .int (g 33), .int (g 34), .ref (ad 16)].set 21 (.int v)) := rfl
theorem pM_0_25 (g : Nat → Int32) (v : Int32) : mkM cI cZ ad 0 (upd g 25 v) = .inr (12, [.ref (ad 1), .ref (ad 2), .ref (ad 3), .int (g 3), .int (g 4), .int (g 5), .ref (ad 4), .ref (ad 5), .int (g 8), .ref (ad 6), .int (g 10), .ref (ad 7), .ref (ad 8), .ref (ad 9), .ref (ad 10), .int (g 15), .long (l_mk (g 100) (g 101)), .int (g 17), .int (g 18), .int (g 19), .int (g 20), .int (g 21), .ref (ad 11), .ref (ad 12), .ref (ad 13), .int (g 25), .int (g 26), .ref (ad 14), .int (g 28), .ref (ad 15), .int (g 30), .int (g 31), .int (g 32), .int (g 33), .int (g 34), .ref (ad 16)].set 25 (.int v)) := rfl
theorem pM_0_26 (g : Nat → Int32) (v : Int32) : mkM cI cZ ad 0 (upd g 26 v) = .inr (12, [.ref (ad 1), .ref (ad 2), .ref (ad 3), .int (g 3), .int (g 4), .int (g 5), .ref (ad 4), .ref (ad 5), .int (g 8), .ref (ad 6), .int (g 10), .ref (ad 7), .ref (ad 8), .ref (ad 9), .ref (ad 10), .int (g 15), .long (l_mk (g 100) (g 101)), .int (g 17), .int (g 18), .int (g 19), .int (g 20), .int (g 21), .ref (ad 11), .ref (ad 12), .ref (ad 13), .int (g 25), .int (g 26), .ref (ad 14), .int (g 28), .ref (ad 15), .int (g 30), .int (g 31), .int (g 32), .int (g 33), .int (g 34), .ref (ad 16)].set 26 (.int v)) := rfl
theorem pM_0_28 (g : Nat → Int32) (v : Int32) : mkM cI cZ ad 0 (upd g 28 v) = .inr (12, [.ref (ad 1), .ref (ad 2), .ref (ad 3), .int (g 3), .int (g 4), .int (g 5), .ref (ad 4), .ref (ad 5), .int (g 8), .ref (ad 6), .int (g 10), .ref (ad 7), .ref (ad 8), .ref (ad 9), .ref (ad 10), .int (g 15), .long (l_mk (g 100) (g 101)), .int (g 17), .int (g 18), .int (g 19), .int (g 20), .int (g 21), .ref (ad 11), .ref (ad 12), .ref (ad 13), .int (g 25), .int (g 26), .ref (ad 14), .int (g 28), .ref (ad 15), .int (g 30), .int (g 31), .int (g 32), .int (g 33), .int (g 34), .ref (ad 16)].set 28 (.int v)) := rfl
theorem pM_0_30 (g : Nat → Int32) (v : Int32) : mkM cI cZ ad 0 (upd g 30 v) = .inr (12, [.ref (ad 1), .ref (ad 2), .ref (ad 3), .int (g 3), .int (g 4), .int (g 5), .ref (ad 4), .ref (ad 5), .int (g 8), .ref (ad 6), .int (g 10), .ref (ad 7), .ref (ad 8), .ref (ad 9), .ref (ad 10), .int (g 15), .long (l_mk (g 100) (g 101)), .int (g 17), .int (g 18), .int (g 19), .int (g 20), .int (g 21), .ref (ad 11), .ref (ad 12), .ref (ad 13), .int (g 25), .int (g 26), .ref (ad 14), .int (g 28), .ref (ad 15), .int (g 30), .int (g 31), .int (g 32), .int (g 33), .int (g 34), .ref (ad 16)].set 30 (.int v)) := rfl
theorem pM_0_31 (g : Nat → Int32) (v : Int32) : mkM cI cZ ad 0 (upd g 31 v) = .inr (12, [.ref (ad 1), .ref (ad 2), .ref (ad 3), .int (g 3), .int (g 4), .int (g 5), .ref (ad 4), .ref (ad 5), .int (g 8), .ref (ad 6), .int (g 10), .ref (ad 7), .ref (ad 8), .ref (ad 9), .ref (ad 10), .int (g 15), .long (l_mk (g 100) (g 101)), .int (g 17), .int (g 18), .int (g 19), .int (g 20), .int (g 21), .ref (ad 11), .ref (ad 12), .ref (ad 13), .int (g 25), .int (g 26), .ref (ad 14), .int (g 28), .ref (ad 15), .int (g 30), .int (g 31), .int (g 32), .int (g 33), .int (g 34), .ref (ad 16)].set 31 (.int v)) := rfl
theorem pM_0_32 (g : Nat → Int32) (v : Int32) : mkM cI cZ ad 0 (upd g 32 v) = .inr (12, [.ref (ad 1), .ref (ad 2), .ref (ad 3), .int (g 3), .int (g 4), .int (g 5), .ref (ad 4), .ref (ad 5), .int (g 8), .ref (ad 6), .int (g 10), .ref (ad 7), .ref (ad 8), .ref (ad 9), .ref (ad 10), .int (g 15), .long (l_mk (g 100) (g 101)), .int (g 17), .int (g 18), .int (g 19), .int (g 20), .int (g 21), .ref (ad 11), .ref (ad 12), .ref (ad 13), .int (g 25), .int (g 26), .ref (ad 14), .int (g 28), .ref (ad 15), .int (g 30), .int (g 31), .int (g 32), .int (g 33), .int (g 34), .ref (ad 16)].set 32 (.int v)) := rfl
theorem pM_0_33 (g : Nat → Int32) (v : Int32) : mkM cI cZ ad 0 (upd g 33 v) = .inr (12, [.ref (ad 1), .ref (ad 2), .ref (ad 3), .int (g 3), .int (g 4), .int (g 5), .ref (ad 4), .ref (ad 5), .int (g 8), .ref (ad 6), .int (g 10), .ref (ad 7), .ref (ad 8), .ref (ad 9), .ref (ad 10), .int (g 15), .long (l_mk (g 100) (g 101)), .int (g 17), .int (g 18), .int (g 19), .int (g 20), .int (g 21), .ref (ad 11), .ref (ad 12), .ref (ad 13), .int (g 25), .int (g 26), .ref (ad 14), .int (g 28), .ref (ad 15), .int (g 30), .int (g 31), .int (g 32), .int (g 33), .int (g 34), .ref (ad 16)].set 33 (.int v)) := rfl
theorem pM_0_34 (g : Nat → Int32) (v : Int32) : mkM cI cZ ad 0 (upd g 34 v) = .inr (12, [.ref (ad 1), .ref (ad 2), .ref (ad 3), .int (g 3), .int (g 4), .int (g 5), .ref (ad 4), .ref (ad 5), .int (g 8), .ref (ad 6), .int (g 10), .ref (ad 7), .ref (ad 8), .ref (ad 9), .ref (ad 10), .int (g 15), .long (l_mk (g 100) (g 101)), .int (g 17), .int (g 18), .int (g 19), .int (g 20), .int (g 21), .ref (ad 11), .ref (ad 12), .ref (ad 13), .int (g 25), .int (g 26), .ref (ad 14), .int (g 28), .ref (ad 15), .int (g 30), .int (g 31), .int (g 32), .int (g 33), .int (g 34), .ref (ad 16)].set 34 (.int v)) := rfl
end WM
def mkS (cI cZ cC cG cB : ClassId) (ad : Nat → Nat) : Mk := fun i f => match i with
  | 0 => .inr (11, [.ref (ad 1), .int (f 1), .ref (ad 10), .ref (ad 18), .ref (ad 68), .ref (ad 26), .ref (ad 7), .ref (ad 2), .ref (ad 59), .ref (ad 61), .ref (ad 8), .ref (ad 3), .ref (ad 4), .ref (ad 5), .ref (ad 6), .int (f 15), .long (l_mk (f 100) (f 101))])
  | 1 => .inl (cC, 200, .inl f)
  | 2 => .inl (cZ, 2, .inl f)
  | 3 => .inl (cI, 30, .inl f)
  | 4 => .inl (cI, 6, .inl f)
  | 5 => .inl (cI, 6, .inl f)
  | 6 => .inl (cI, 6, .inl f)
  | 7 => .inl (cG, 2, .inr (.inr (.inr (.inr (fun j => some (ad (37 + 11 * j)))))))
  | 8 => .inl (cB, 6, .inr (.inr (.inr (.inr (fun j => some (ad (69 + j)))))))
  | 9 => .inl (cC, 0, .inl f)
  | 10 => .inr (2, [.int (f 0), .int (f 1), .int (f 2), .int (f 3), .int (f 4), .ref (ad 11), .ref (ad 12), .ref (ad 13), .ref (ad 14), .ref (ad 15), .ref (ad 16), .ref (ad 17)])
  | 11 => .inl (cI, 30, .inl f)
  | 12 => .inl (cI, 30, .inl f)
  | 13 => .inl (cI, 30, .inl f)
  | 14 => .inl (cI, 120, .inl f)
  | 15 => .inl (cI, 5, .inl f)
  | 16 => .inl (cI, 5, .inl f)
  | 17 => .inl (cI, 5, .inl f)
  | 18 => .inr (2, [.int (f 0), .int (f 1), .int (f 2), .int (f 3), .int (f 4), .ref (ad 19), .ref (ad 20), .ref (ad 21), .ref (ad 22), .ref (ad 23), .ref (ad 24), .ref (ad 25)])
  | 19 => .inl (cI, 30, .inl f)
  | 20 => .inl (cI, 30, .inl f)
  | 21 => .inl (cI, 30, .inl f)
  | 22 => .inl (cI, 120, .inl f)
  | 23 => .inl (cI, 5, .inl f)
  | 24 => .inl (cI, 5, .inl f)
  | 25 => .inl (cI, 5, .inl f)
  | 26 => .inr (3, [.int (f 0), .int (f 1), .ref (ad 27), .ref (ad 28), .ref (ad 29), .ref (ad 30), .ref (ad 31), .ref (ad 32), .ref (ad 33), .ref (ad 34), .ref (ad 35), .ref (ad 36)])
  | 27 => .inl (cI, 30, .inl f)
  | 28 => .inl (cI, 30, .inl f)
  | 29 => .inl (cI, 30, .inl f)
  | 30 => .inl (cI, 30, .inl f)
  | 31 => .inl (cI, 30, .inl f)
  | 32 => .inl (cI, 30, .inl f)
  | 33 => .inl (cI, 10, .inl f)
  | 34 => .inl (cI, 10, .inl f)
  | 35 => .inl (cI, 10, .inl f)
  | 36 => .inl (cI, 10, .inl f)
  | 37 => .inr (3, [.int (f 0), .int (f 1), .ref (ad 38), .ref (ad 39), .ref (ad 40), .ref (ad 41), .ref (ad 42), .ref (ad 43), .ref (ad 44), .ref (ad 45), .ref (ad 46), .ref (ad 47)])
  | 38 => .inl (cI, 30, .inl f)
  | 39 => .inl (cI, 30, .inl f)
  | 40 => .inl (cI, 30, .inl f)
  | 41 => .inl (cI, 30, .inl f)
  | 42 => .inl (cI, 30, .inl f)
  | 43 => .inl (cI, 30, .inl f)
  | 44 => .inl (cI, 10, .inl f)
  | 45 => .inl (cI, 10, .inl f)
  | 46 => .inl (cI, 10, .inl f)
  | 47 => .inl (cI, 10, .inl f)
  | 48 => .inr (3, [.int (f 0), .int (f 1), .ref (ad 49), .ref (ad 50), .ref (ad 51), .ref (ad 52), .ref (ad 53), .ref (ad 54), .ref (ad 55), .ref (ad 56), .ref (ad 57), .ref (ad 58)])
  | 49 => .inl (cI, 30, .inl f)
  | 50 => .inl (cI, 30, .inl f)
  | 51 => .inl (cI, 30, .inl f)
  | 52 => .inl (cI, 30, .inl f)
  | 53 => .inl (cI, 30, .inl f)
  | 54 => .inl (cI, 30, .inl f)
  | 55 => .inl (cI, 10, .inl f)
  | 56 => .inl (cI, 10, .inl f)
  | 57 => .inl (cI, 10, .inl f)
  | 58 => .inl (cI, 10, .inl f)
  | 59 => .inr (8, [.int (f 0), .int (f 1), .int (f 2), .int (f 3), .ref (ad 60)])
  | 60 => .inl (cI, 10, .inl f)
  | 61 => .inr (6, [.int (f 0), .int (f 1), .int (f 2), .ref (ad 62), .ref (ad 64), .ref (ad 66)])
  | 62 => .inr (8, [.int (f 0), .int (f 1), .int (f 2), .int (f 3), .ref (ad 63)])
  | 63 => .inl (cI, 10, .inl f)
  | 64 => .inr (8, [.int (f 0), .int (f 1), .int (f 2), .int (f 3), .ref (ad 65)])
  | 65 => .inl (cI, 10, .inl f)
  | 66 => .inr (8, [.int (f 0), .int (f 1), .int (f 2), .int (f 3), .ref (ad 67)])
  | 67 => .inl (cI, 10, .inl f)
  | 68 => .inr (7, [(if f 0 = 0 then .ref (ad 9) else .ref (ad 1)), .int (f 1), .int (f 2), .int (f 3), .int (f 4), .int (f 5), .int (f 6)])
  | 69 => .inr (1, [])
  | 70 => .inr (10, [])
  | 71 => .inr (9, [])
  | 72 => .inr (4, [])
  | 73 => .inr (0, [])
  | 74 => .inr (5, [])
  | _ => .inr (0, [])
abbrev tysS (cI cZ cC cG cB : ClassId) : List (ClassId × FieldType) := [(cI, .int), (cZ, .boolean), (cC, .char), (cG, .object "SlopeCoins$Ground"), (cB, .object "SlopeCoins$CellKind")]
abbrev nwS : List Cond := [Cond.fieldLinkNest "SlopeCoins$LodgeKind" 19 "SlopeCoins" "city" "LSlopeCoins$City;" "SlopeCoins", Cond.fieldLinkNest "SlopeCoins$CellKind" 13 "SlopeCoins" "ground" "LSlopeCoins$Ground;" "SlopeCoins", Cond.fieldLinkNest "SlopeCoins$SquareKind" 19 "SlopeCoins" "ground" "LSlopeCoins$Ground;" "SlopeCoins", Cond.fieldLinkNest "SlopeCoins$BendKind" 19 "SlopeCoins" "ground" "LSlopeCoins$Ground;" "SlopeCoins", Cond.fieldLinkNest "SlopeCoins$CellKind" 7 "SlopeCoins" "traced" "J" "SlopeCoins", Cond.fieldLinkNest "SlopeCoins$BendKind" 7 "SlopeCoins" "traced" "J" "SlopeCoins", Cond.fieldLinkNest "SlopeCoins$SquareKind" 7 "SlopeCoins" "traced" "J" "SlopeCoins", Cond.fieldLinkNest "SlopeCoins$LaneKind" 7 "SlopeCoins" "traced" "J" "SlopeCoins", Cond.fieldLinkNest "SlopeCoins$StreetKind" 7 "SlopeCoins" "traced" "J" "SlopeCoins", Cond.fieldLinkNest "SlopeCoins$LodgeKind" 7 "SlopeCoins" "traced" "J" "SlopeCoins", Cond.methodLinkNest "SlopeCoins$StreetKind" 19 ⟨"SlopeCoins", "shutWays", "(I)I"⟩ "SlopeCoins"]
abbrev GS (l : Launch) (fr lo : Nat) (D : va_G) (cI cZ cC cG cB : ClassId) (ad : Nat → Nat) (a : Program × Env × State × MethodId) (b : Array Value × List Frame × Method × Code × (State → Prop) × Nat) (A : Nat → Prop) : Cx := Gx l { frames := fr, cells := 0, slots := 0, locals := lo } D vwCl (tysS cI cZ cC cG cB) nwS (mkS cI cZ cC cG cB ad) ad 75 a b A
abbrev isC (b : Nat) : Prop := b = 10 ∨ b = 18
abbrev isG (b : Nat) : Prop := b = 26 ∨ b = 37 ∨ b = 48
abbrev isR (b : Nat) : Prop := b = 59 ∨ b = 62 ∨ b = 64 ∨ b = 66
section WS
variable (cI cZ cC cG cB : ClassId) (ad : Nat → Nat)
theorem mS_0 (f : Nat → Int32) : mkS cI cZ cC cG cB ad 0 f = .inr (11, [.ref (ad 1), .int (f 1), .ref (ad 10), .ref (ad 18), .ref (ad 68), .ref (ad 26), .ref (ad 7), .ref (ad 2), .ref (ad 59), .ref (ad 61), .ref (ad 8), .ref (ad 3), .ref (ad 4), .ref (ad 5), .ref (ad 6), .int (f 15), .long (l_mk (f 100) (f 101))]) := rfl
theorem mS_1 (f : Nat → Int32) : mkS cI cZ cC cG cB ad 1 f = .inl (cC, 200, .inl f) := rfl
theorem mS_2 (f : Nat → Int32) : mkS cI cZ cC cG cB ad 2 f = .inl (cZ, 2, .inl f) := rfl
theorem mS_3 (f : Nat → Int32) : mkS cI cZ cC cG cB ad 3 f = .inl (cI, 30, .inl f) := rfl
theorem mS_4 (f : Nat → Int32) : mkS cI cZ cC cG cB ad 4 f = .inl (cI, 6, .inl f) := rfl
theorem mS_5 (f : Nat → Int32) : mkS cI cZ cC cG cB ad 5 f = .inl (cI, 6, .inl f) := rfl
theorem mS_6 (f : Nat → Int32) : mkS cI cZ cC cG cB ad 6 f = .inl (cI, 6, .inl f) := rfl
theorem mS_7 (f : Nat → Int32) : mkS cI cZ cC cG cB ad 7 f = .inl (cG, 2, .inr (.inr (.inr (.inr (fun j => some (ad (37 + 11 * j))))))) := rfl
theorem mS_8 (f : Nat → Int32) : mkS cI cZ cC cG cB ad 8 f = .inl (cB, 6, .inr (.inr (.inr (.inr (fun j => some (ad (69 + j))))))) := rfl
theorem mS_9 (f : Nat → Int32) : mkS cI cZ cC cG cB ad 9 f = .inl (cC, 0, .inl f) := rfl
theorem mS_10 (f : Nat → Int32) : mkS cI cZ cC cG cB ad 10 f = .inr (2, [.int (f 0), .int (f 1), .int (f 2), .int (f 3), .int (f 4), .ref (ad 11), .ref (ad 12), .ref (ad 13), .ref (ad 14), .ref (ad 15), .ref (ad 16), .ref (ad 17)]) := rfl
theorem mS_11 (f : Nat → Int32) : mkS cI cZ cC cG cB ad 11 f = .inl (cI, 30, .inl f) := rfl
theorem mS_12 (f : Nat → Int32) : mkS cI cZ cC cG cB ad 12 f = .inl (cI, 30, .inl f) := rfl
theorem mS_13 (f : Nat → Int32) : mkS cI cZ cC cG cB ad 13 f = .inl (cI, 30, .inl f) := rfl
theorem mS_14 (f : Nat → Int32) : mkS cI cZ cC cG cB ad 14 f = .inl (cI, 120, .inl f) := rfl
theorem mS_15 (f : Nat → Int32) : mkS cI cZ cC cG cB ad 15 f = .inl (cI, 5, .inl f) := rfl
theorem mS_16 (f : Nat → Int32) : mkS cI cZ cC cG cB ad 16 f = .inl (cI, 5, .inl f) := rfl
theorem mS_17 (f : Nat → Int32) : mkS cI cZ cC cG cB ad 17 f = .inl (cI, 5, .inl f) := rfl
theorem mS_18 (f : Nat → Int32) : mkS cI cZ cC cG cB ad 18 f = .inr (2, [.int (f 0), .int (f 1), .int (f 2), .int (f 3), .int (f 4), .ref (ad 19), .ref (ad 20), .ref (ad 21), .ref (ad 22), .ref (ad 23), .ref (ad 24), .ref (ad 25)]) := rfl
theorem mS_19 (f : Nat → Int32) : mkS cI cZ cC cG cB ad 19 f = .inl (cI, 30, .inl f) := rfl
theorem mS_20 (f : Nat → Int32) : mkS cI cZ cC cG cB ad 20 f = .inl (cI, 30, .inl f) := rfl
theorem mS_21 (f : Nat → Int32) : mkS cI cZ cC cG cB ad 21 f = .inl (cI, 30, .inl f) := rfl
theorem mS_22 (f : Nat → Int32) : mkS cI cZ cC cG cB ad 22 f = .inl (cI, 120, .inl f) := rfl
theorem mS_23 (f : Nat → Int32) : mkS cI cZ cC cG cB ad 23 f = .inl (cI, 5, .inl f) := rfl
theorem mS_24 (f : Nat → Int32) : mkS cI cZ cC cG cB ad 24 f = .inl (cI, 5, .inl f) := rfl
theorem mS_25 (f : Nat → Int32) : mkS cI cZ cC cG cB ad 25 f = .inl (cI, 5, .inl f) := rfl
theorem mS_26 (f : Nat → Int32) : mkS cI cZ cC cG cB ad 26 f = .inr (3, [.int (f 0), .int (f 1), .ref (ad 27), .ref (ad 28), .ref (ad 29), .ref (ad 30), .ref (ad 31), .ref (ad 32), .ref (ad 33), .ref (ad 34), .ref (ad 35), .ref (ad 36)]) := rfl
theorem mS_27 (f : Nat → Int32) : mkS cI cZ cC cG cB ad 27 f = .inl (cI, 30, .inl f) := rfl
theorem mS_28 (f : Nat → Int32) : mkS cI cZ cC cG cB ad 28 f = .inl (cI, 30, .inl f) := rfl
theorem mS_29 (f : Nat → Int32) : mkS cI cZ cC cG cB ad 29 f = .inl (cI, 30, .inl f) := rfl
theorem mS_30 (f : Nat → Int32) : mkS cI cZ cC cG cB ad 30 f = .inl (cI, 30, .inl f) := rfl
theorem mS_31 (f : Nat → Int32) : mkS cI cZ cC cG cB ad 31 f = .inl (cI, 30, .inl f) := rfl
theorem mS_32 (f : Nat → Int32) : mkS cI cZ cC cG cB ad 32 f = .inl (cI, 30, .inl f) := rfl
theorem mS_33 (f : Nat → Int32) : mkS cI cZ cC cG cB ad 33 f = .inl (cI, 10, .inl f) := rfl
theorem mS_34 (f : Nat → Int32) : mkS cI cZ cC cG cB ad 34 f = .inl (cI, 10, .inl f) := rfl
theorem mS_35 (f : Nat → Int32) : mkS cI cZ cC cG cB ad 35 f = .inl (cI, 10, .inl f) := rfl
theorem mS_36 (f : Nat → Int32) : mkS cI cZ cC cG cB ad 36 f = .inl (cI, 10, .inl f) := rfl
theorem mS_37 (f : Nat → Int32) : mkS cI cZ cC cG cB ad 37 f = .inr (3, [.int (f 0), .int (f 1), .ref (ad 38), .ref (ad 39), .ref (ad 40), .ref (ad 41), .ref (ad 42), .ref (ad 43), .ref (ad 44), .ref (ad 45), .ref (ad 46), .ref (ad 47)]) := rfl
theorem mS_38 (f : Nat → Int32) : mkS cI cZ cC cG cB ad 38 f = .inl (cI, 30, .inl f) := rfl
theorem mS_39 (f : Nat → Int32) : mkS cI cZ cC cG cB ad 39 f = .inl (cI, 30, .inl f) := rfl
theorem mS_40 (f : Nat → Int32) : mkS cI cZ cC cG cB ad 40 f = .inl (cI, 30, .inl f) := rfl
theorem mS_41 (f : Nat → Int32) : mkS cI cZ cC cG cB ad 41 f = .inl (cI, 30, .inl f) := rfl
theorem mS_42 (f : Nat → Int32) : mkS cI cZ cC cG cB ad 42 f = .inl (cI, 30, .inl f) := rfl
theorem mS_43 (f : Nat → Int32) : mkS cI cZ cC cG cB ad 43 f = .inl (cI, 30, .inl f) := rfl
theorem mS_44 (f : Nat → Int32) : mkS cI cZ cC cG cB ad 44 f = .inl (cI, 10, .inl f) := rfl
theorem mS_45 (f : Nat → Int32) : mkS cI cZ cC cG cB ad 45 f = .inl (cI, 10, .inl f) := rfl
theorem mS_46 (f : Nat → Int32) : mkS cI cZ cC cG cB ad 46 f = .inl (cI, 10, .inl f) := rfl
theorem mS_47 (f : Nat → Int32) : mkS cI cZ cC cG cB ad 47 f = .inl (cI, 10, .inl f) := rfl
theorem mS_48 (f : Nat → Int32) : mkS cI cZ cC cG cB ad 48 f = .inr (3, [.int (f 0), .int (f 1), .ref (ad 49), .ref (ad 50), .ref (ad 51), .ref (ad 52), .ref (ad 53), .ref (ad 54), .ref (ad 55), .ref (ad 56), .ref (ad 57), .ref (ad 58)]) := rfl
theorem mS_49 (f : Nat → Int32) : mkS cI cZ cC cG cB ad 49 f = .inl (cI, 30, .inl f) := rfl
theorem mS_50 (f : Nat → Int32) : mkS cI cZ cC cG cB ad 50 f = .inl (cI, 30, .inl f) := rfl
theorem mS_51 (f : Nat → Int32) : mkS cI cZ cC cG cB ad 51 f = .inl (cI, 30, .inl f) := rfl
theorem mS_52 (f : Nat → Int32) : mkS cI cZ cC cG cB ad 52 f = .inl (cI, 30, .inl f) := rfl
theorem mS_53 (f : Nat → Int32) : mkS cI cZ cC cG cB ad 53 f = .inl (cI, 30, .inl f) := rfl
theorem mS_54 (f : Nat → Int32) : mkS cI cZ cC cG cB ad 54 f = .inl (cI, 30, .inl f) := rfl
theorem mS_55 (f : Nat → Int32) : mkS cI cZ cC cG cB ad 55 f = .inl (cI, 10, .inl f) := rfl
theorem mS_56 (f : Nat → Int32) : mkS cI cZ cC cG cB ad 56 f = .inl (cI, 10, .inl f) := rfl
theorem mS_57 (f : Nat → Int32) : mkS cI cZ cC cG cB ad 57 f = .inl (cI, 10, .inl f) := rfl
theorem mS_58 (f : Nat → Int32) : mkS cI cZ cC cG cB ad 58 f = .inl (cI, 10, .inl f) := rfl
theorem mS_59 (f : Nat → Int32) : mkS cI cZ cC cG cB ad 59 f = .inr (8, [.int (f 0), .int (f 1), .int (f 2), .int (f 3), .ref (ad 60)]) := rfl
theorem mS_60 (f : Nat → Int32) : mkS cI cZ cC cG cB ad 60 f = .inl (cI, 10, .inl f) := rfl
theorem mS_61 (f : Nat → Int32) : mkS cI cZ cC cG cB ad 61 f = .inr (6, [.int (f 0), .int (f 1), .int (f 2), .ref (ad 62), .ref (ad 64), .ref (ad 66)]) := rfl
theorem mS_62 (f : Nat → Int32) : mkS cI cZ cC cG cB ad 62 f = .inr (8, [.int (f 0), .int (f 1), .int (f 2), .int (f 3), .ref (ad 63)]) := rfl
theorem mS_63 (f : Nat → Int32) : mkS cI cZ cC cG cB ad 63 f = .inl (cI, 10, .inl f) := rfl
theorem mS_64 (f : Nat → Int32) : mkS cI cZ cC cG cB ad 64 f = .inr (8, [.int (f 0), .int (f 1), .int (f 2), .int (f 3), .ref (ad 65)]) := rfl
theorem mS_65 (f : Nat → Int32) : mkS cI cZ cC cG cB ad 65 f = .inl (cI, 10, .inl f) := rfl
theorem mS_66 (f : Nat → Int32) : mkS cI cZ cC cG cB ad 66 f = .inr (8, [.int (f 0), .int (f 1), .int (f 2), .int (f 3), .ref (ad 67)]) := rfl
theorem mS_67 (f : Nat → Int32) : mkS cI cZ cC cG cB ad 67 f = .inl (cI, 10, .inl f) := rfl
theorem mS_68 (f : Nat → Int32) : mkS cI cZ cC cG cB ad 68 f = .inr (7, [(if f 0 = 0 then .ref (ad 9) else .ref (ad 1)), .int (f 1), .int (f 2), .int (f 3), .int (f 4), .int (f 5), .int (f 6)]) := rfl
theorem mS_69 (f : Nat → Int32) : mkS cI cZ cC cG cB ad 69 f = .inr (1, []) := rfl
theorem mS_70 (f : Nat → Int32) : mkS cI cZ cC cG cB ad 70 f = .inr (10, []) := rfl
theorem mS_71 (f : Nat → Int32) : mkS cI cZ cC cG cB ad 71 f = .inr (9, []) := rfl
theorem mS_72 (f : Nat → Int32) : mkS cI cZ cC cG cB ad 72 f = .inr (4, []) := rfl
theorem mS_73 (f : Nat → Int32) : mkS cI cZ cC cG cB ad 73 f = .inr (0, []) := rfl
theorem mS_74 (f : Nat → Int32) : mkS cI cZ cC cG cB ad 74 f = .inr (5, []) := rfl
theorem mS_C {x : Nat} (h : isC x) (f : Nat → Int32) : mkS cI cZ cC cG cB ad x f = .inr (2, [.int (f 0), .int (f 1), .int (f 2), .int (f 3), .int (f 4), .ref (ad (x + 1)), .ref (ad (x + 2)), .ref (ad (x + 3)), .ref (ad (x + 4)), .ref (ad (x + 5)), .ref (ad (x + 6)), .ref (ad (x + 7))]) := by rcases h with h | h <;> subst h <;> rfl
theorem lS_C {x : Nat} (h : isC x) : x < 75 := by rcases h with h | h <;> subst h <;> decide
theorem mS_C1 {x : Nat} (h : isC x) (f : Nat → Int32) : mkS cI cZ cC cG cB ad (x + 1) f = .inl (cI, 30, .inl f) := by rcases h with h | h <;> subst h <;> rfl
theorem lS_C1 {x : Nat} (h : isC x) : x + 1 < 75 := by rcases h with h | h <;> subst h <;> decide
theorem mS_C2 {x : Nat} (h : isC x) (f : Nat → Int32) : mkS cI cZ cC cG cB ad (x + 2) f = .inl (cI, 30, .inl f) := by rcases h with h | h <;> subst h <;> rfl
theorem lS_C2 {x : Nat} (h : isC x) : x + 2 < 75 := by rcases h with h | h <;> subst h <;> decide
theorem mS_C3 {x : Nat} (h : isC x) (f : Nat → Int32) : mkS cI cZ cC cG cB ad (x + 3) f = .inl (cI, 30, .inl f) := by rcases h with h | h <;> subst h <;> rfl
theorem lS_C3 {x : Nat} (h : isC x) : x + 3 < 75 := by rcases h with h | h <;> subst h <;> decide
theorem mS_C4 {x : Nat} (h : isC x) (f : Nat → Int32) : mkS cI cZ cC cG cB ad (x + 4) f = .inl (cI, 120, .inl f) := by rcases h with h | h <;> subst h <;> rfl
theorem lS_C4 {x : Nat} (h : isC x) : x + 4 < 75 := by rcases h with h | h <;> subst h <;> decide
theorem mS_C5 {x : Nat} (h : isC x) (f : Nat → Int32) : mkS cI cZ cC cG cB ad (x + 5) f = .inl (cI, 5, .inl f) := by rcases h with h | h <;> subst h <;> rfl
theorem lS_C5 {x : Nat} (h : isC x) : x + 5 < 75 := by rcases h with h | h <;> subst h <;> decide
theorem mS_C6 {x : Nat} (h : isC x) (f : Nat → Int32) : mkS cI cZ cC cG cB ad (x + 6) f = .inl (cI, 5, .inl f) := by rcases h with h | h <;> subst h <;> rfl
theorem lS_C6 {x : Nat} (h : isC x) : x + 6 < 75 := by rcases h with h | h <;> subst h <;> decide
theorem mS_C7 {x : Nat} (h : isC x) (f : Nat → Int32) : mkS cI cZ cC cG cB ad (x + 7) f = .inl (cI, 5, .inl f) := by rcases h with h | h <;> subst h <;> rfl
theorem lS_C7 {x : Nat} (h : isC x) : x + 7 < 75 := by rcases h with h | h <;> subst h <;> decide
theorem mS_G {x : Nat} (h : isG x) (f : Nat → Int32) : mkS cI cZ cC cG cB ad x f = .inr (3, [.int (f 0), .int (f 1), .ref (ad (x + 1)), .ref (ad (x + 2)), .ref (ad (x + 3)), .ref (ad (x + 4)), .ref (ad (x + 5)), .ref (ad (x + 6)), .ref (ad (x + 7)), .ref (ad (x + 8)), .ref (ad (x + 9)), .ref (ad (x + 10))]) := by rcases h with h | h | h <;> subst h <;> rfl
theorem lS_G {x : Nat} (h : isG x) : x < 75 := by rcases h with h | h | h <;> subst h <;> decide
theorem mS_G1 {x : Nat} (h : isG x) (f : Nat → Int32) : mkS cI cZ cC cG cB ad (x + 1) f = .inl (cI, 30, .inl f) := by rcases h with h | h | h <;> subst h <;> rfl
theorem lS_G1 {x : Nat} (h : isG x) : x + 1 < 75 := by rcases h with h | h | h <;> subst h <;> decide
theorem mS_G2 {x : Nat} (h : isG x) (f : Nat → Int32) : mkS cI cZ cC cG cB ad (x + 2) f = .inl (cI, 30, .inl f) := by rcases h with h | h | h <;> subst h <;> rfl
theorem lS_G2 {x : Nat} (h : isG x) : x + 2 < 75 := by rcases h with h | h | h <;> subst h <;> decide
theorem mS_G3 {x : Nat} (h : isG x) (f : Nat → Int32) : mkS cI cZ cC cG cB ad (x + 3) f = .inl (cI, 30, .inl f) := by rcases h with h | h | h <;> subst h <;> rfl
theorem lS_G3 {x : Nat} (h : isG x) : x + 3 < 75 := by rcases h with h | h | h <;> subst h <;> decide
theorem mS_G4 {x : Nat} (h : isG x) (f : Nat → Int32) : mkS cI cZ cC cG cB ad (x + 4) f = .inl (cI, 30, .inl f) := by rcases h with h | h | h <;> subst h <;> rfl
theorem lS_G4 {x : Nat} (h : isG x) : x + 4 < 75 := by rcases h with h | h | h <;> subst h <;> decide
theorem mS_G5 {x : Nat} (h : isG x) (f : Nat → Int32) : mkS cI cZ cC cG cB ad (x + 5) f = .inl (cI, 30, .inl f) := by rcases h with h | h | h <;> subst h <;> rfl
theorem lS_G5 {x : Nat} (h : isG x) : x + 5 < 75 := by rcases h with h | h | h <;> subst h <;> decide
theorem mS_G6 {x : Nat} (h : isG x) (f : Nat → Int32) : mkS cI cZ cC cG cB ad (x + 6) f = .inl (cI, 30, .inl f) := by rcases h with h | h | h <;> subst h <;> rfl
theorem lS_G6 {x : Nat} (h : isG x) : x + 6 < 75 := by rcases h with h | h | h <;> subst h <;> decide
theorem mS_G7 {x : Nat} (h : isG x) (f : Nat → Int32) : mkS cI cZ cC cG cB ad (x + 7) f = .inl (cI, 10, .inl f) := by rcases h with h | h | h <;> subst h <;> rfl
theorem lS_G7 {x : Nat} (h : isG x) : x + 7 < 75 := by rcases h with h | h | h <;> subst h <;> decide
theorem mS_G8 {x : Nat} (h : isG x) (f : Nat → Int32) : mkS cI cZ cC cG cB ad (x + 8) f = .inl (cI, 10, .inl f) := by rcases h with h | h | h <;> subst h <;> rfl
theorem lS_G8 {x : Nat} (h : isG x) : x + 8 < 75 := by rcases h with h | h | h <;> subst h <;> decide
theorem mS_G9 {x : Nat} (h : isG x) (f : Nat → Int32) : mkS cI cZ cC cG cB ad (x + 9) f = .inl (cI, 10, .inl f) := by rcases h with h | h | h <;> subst h <;> rfl
theorem lS_G9 {x : Nat} (h : isG x) : x + 9 < 75 := by rcases h with h | h | h <;> subst h <;> decide
theorem mS_G10 {x : Nat} (h : isG x) (f : Nat → Int32) : mkS cI cZ cC cG cB ad (x + 10) f = .inl (cI, 10, .inl f) := by rcases h with h | h | h <;> subst h <;> rfl
theorem lS_G10 {x : Nat} (h : isG x) : x + 10 < 75 := by rcases h with h | h | h <;> subst h <;> decide
theorem mS_R {x : Nat} (h : isR x) (f : Nat → Int32) : mkS cI cZ cC cG cB ad x f = .inr (8, [.int (f 0), .int (f 1), .int (f 2), .int (f 3), .ref (ad (x + 1))]) := by rcases h with h | h | h | h <;> subst h <;> rfl
theorem lS_R {x : Nat} (h : isR x) : x < 75 := by rcases h with h | h | h | h <;> subst h <;> decide
theorem mS_R1 {x : Nat} (h : isR x) (f : Nat → Int32) : mkS cI cZ cC cG cB ad (x + 1) f = .inl (cI, 10, .inl f) := by rcases h with h | h | h | h <;> subst h <;> rfl
theorem lS_R1 {x : Nat} (h : isR x) : x + 1 < 75 := by rcases h with h | h | h | h <;> subst h <;> decide
theorem rd_bytes {f : Nat → Int32} {l : List Value} (g : ¬ f 0 = 0) : ((if f 0 = 0 then Value.ref (ad 9) else Value.ref (ad 1)) :: l)[0]? = some (Value.ref (ad 1)) := by simp [g]
theorem pS_0_1 (g : Nat → Int32) (v : Int32) : mkS cI cZ cC cG cB ad 0 (upd g 1 v) = .inr (11, [.ref (ad 1), .int (g 1), .ref (ad 10), .ref (ad 18), .ref (ad 68), .ref (ad 26), .ref (ad 7), .ref (ad 2), .ref (ad 59), .ref (ad 61), .ref (ad 8), .ref (ad 3), .ref (ad 4), .ref (ad 5), .ref (ad 6), .int (g 15), .long (l_mk (g 100) (g 101))].set 1 (.int v)) := rfl
theorem pS_0_15 (g : Nat → Int32) (v : Int32) : mkS cI cZ cC cG cB ad 0 (upd g 15 v) = .inr (11, [.ref (ad 1), .int (g 1), .ref (ad 10), .ref (ad 18), .ref (ad 68), .ref (ad 26), .ref (ad 7), .ref (ad 2), .ref (ad 59), .ref (ad 61), .ref (ad 8), .ref (ad 3), .ref (ad 4), .ref (ad 5), .ref (ad 6), .int (g 15), .long (l_mk (g 100) (g 101))].set 15 (.int v)) := rfl
theorem pS_26_0 (g : Nat → Int32) (v : Int32) : mkS cI cZ cC cG cB ad 26 (upd g 0 v) = .inr (3, [.int (g 0), .int (g 1), .ref (ad 27), .ref (ad 28), .ref (ad 29), .ref (ad 30), .ref (ad 31), .ref (ad 32), .ref (ad 33), .ref (ad 34), .ref (ad 35), .ref (ad 36)].set 0 (.int v)) := rfl
theorem pS_26_1 (g : Nat → Int32) (v : Int32) : mkS cI cZ cC cG cB ad 26 (upd g 1 v) = .inr (3, [.int (g 0), .int (g 1), .ref (ad 27), .ref (ad 28), .ref (ad 29), .ref (ad 30), .ref (ad 31), .ref (ad 32), .ref (ad 33), .ref (ad 34), .ref (ad 35), .ref (ad 36)].set 1 (.int v)) := rfl
theorem pS_61_0 (g : Nat → Int32) (v : Int32) : mkS cI cZ cC cG cB ad 61 (upd g 0 v) = .inr (6, [.int (g 0), .int (g 1), .int (g 2), .ref (ad 62), .ref (ad 64), .ref (ad 66)].set 0 (.int v)) := rfl
theorem pS_61_1 (g : Nat → Int32) (v : Int32) : mkS cI cZ cC cG cB ad 61 (upd g 1 v) = .inr (6, [.int (g 0), .int (g 1), .int (g 2), .ref (ad 62), .ref (ad 64), .ref (ad 66)].set 1 (.int v)) := rfl
theorem pS_61_2 (g : Nat → Int32) (v : Int32) : mkS cI cZ cC cG cB ad 61 (upd g 2 v) = .inr (6, [.int (g 0), .int (g 1), .int (g 2), .ref (ad 62), .ref (ad 64), .ref (ad 66)].set 2 (.int v)) := rfl
theorem pS_68_1 (g : Nat → Int32) (v : Int32) : mkS cI cZ cC cG cB ad 68 (upd g 1 v) = .inr (7, [(if g 0 = 0 then .ref (ad 9) else .ref (ad 1)), .int (g 1), .int (g 2), .int (g 3), .int (g 4), .int (g 5), .int (g 6)].set 1 (.int v)) := rfl
theorem pS_68_2 (g : Nat → Int32) (v : Int32) : mkS cI cZ cC cG cB ad 68 (upd g 2 v) = .inr (7, [(if g 0 = 0 then .ref (ad 9) else .ref (ad 1)), .int (g 1), .int (g 2), .int (g 3), .int (g 4), .int (g 5), .int (g 6)].set 2 (.int v)) := rfl
theorem pS_68_3 (g : Nat → Int32) (v : Int32) : mkS cI cZ cC cG cB ad 68 (upd g 3 v) = .inr (7, [(if g 0 = 0 then .ref (ad 9) else .ref (ad 1)), .int (g 1), .int (g 2), .int (g 3), .int (g 4), .int (g 5), .int (g 6)].set 3 (.int v)) := rfl
theorem pS_68_4 (g : Nat → Int32) (v : Int32) : mkS cI cZ cC cG cB ad 68 (upd g 4 v) = .inr (7, [(if g 0 = 0 then .ref (ad 9) else .ref (ad 1)), .int (g 1), .int (g 2), .int (g 3), .int (g 4), .int (g 5), .int (g 6)].set 4 (.int v)) := rfl
theorem pS_68_5 (g : Nat → Int32) (v : Int32) : mkS cI cZ cC cG cB ad 68 (upd g 5 v) = .inr (7, [(if g 0 = 0 then .ref (ad 9) else .ref (ad 1)), .int (g 1), .int (g 2), .int (g 3), .int (g 4), .int (g 5), .int (g 6)].set 5 (.int v)) := rfl
theorem pS_68_6 (g : Nat → Int32) (v : Int32) : mkS cI cZ cC cG cB ad 68 (upd g 6 v) = .inr (7, [(if g 0 = 0 then .ref (ad 9) else .ref (ad 1)), .int (g 1), .int (g 2), .int (g 3), .int (g 4), .int (g 5), .int (g 6)].set 6 (.int v)) := rfl
theorem pS_C_0 {x : Nat} (h : isC x) (g : Nat → Int32) (v : Int32) : mkS cI cZ cC cG cB ad x (upd g 0 v) = .inr (2, [.int (g 0), .int (g 1), .int (g 2), .int (g 3), .int (g 4), .ref (ad (x + 1)), .ref (ad (x + 2)), .ref (ad (x + 3)), .ref (ad (x + 4)), .ref (ad (x + 5)), .ref (ad (x + 6)), .ref (ad (x + 7))].set 0 (.int v)) := by rcases h with h | h <;> subst h <;> rfl
theorem pS_C_1 {x : Nat} (h : isC x) (g : Nat → Int32) (v : Int32) : mkS cI cZ cC cG cB ad x (upd g 1 v) = .inr (2, [.int (g 0), .int (g 1), .int (g 2), .int (g 3), .int (g 4), .ref (ad (x + 1)), .ref (ad (x + 2)), .ref (ad (x + 3)), .ref (ad (x + 4)), .ref (ad (x + 5)), .ref (ad (x + 6)), .ref (ad (x + 7))].set 1 (.int v)) := by rcases h with h | h <;> subst h <;> rfl
theorem pS_C_2 {x : Nat} (h : isC x) (g : Nat → Int32) (v : Int32) : mkS cI cZ cC cG cB ad x (upd g 2 v) = .inr (2, [.int (g 0), .int (g 1), .int (g 2), .int (g 3), .int (g 4), .ref (ad (x + 1)), .ref (ad (x + 2)), .ref (ad (x + 3)), .ref (ad (x + 4)), .ref (ad (x + 5)), .ref (ad (x + 6)), .ref (ad (x + 7))].set 2 (.int v)) := by rcases h with h | h <;> subst h <;> rfl
theorem pS_C_3 {x : Nat} (h : isC x) (g : Nat → Int32) (v : Int32) : mkS cI cZ cC cG cB ad x (upd g 3 v) = .inr (2, [.int (g 0), .int (g 1), .int (g 2), .int (g 3), .int (g 4), .ref (ad (x + 1)), .ref (ad (x + 2)), .ref (ad (x + 3)), .ref (ad (x + 4)), .ref (ad (x + 5)), .ref (ad (x + 6)), .ref (ad (x + 7))].set 3 (.int v)) := by rcases h with h | h <;> subst h <;> rfl
theorem pS_C_4 {x : Nat} (h : isC x) (g : Nat → Int32) (v : Int32) : mkS cI cZ cC cG cB ad x (upd g 4 v) = .inr (2, [.int (g 0), .int (g 1), .int (g 2), .int (g 3), .int (g 4), .ref (ad (x + 1)), .ref (ad (x + 2)), .ref (ad (x + 3)), .ref (ad (x + 4)), .ref (ad (x + 5)), .ref (ad (x + 6)), .ref (ad (x + 7))].set 4 (.int v)) := by rcases h with h | h <;> subst h <;> rfl
theorem pS_G_0 {x : Nat} (h : isG x) (g : Nat → Int32) (v : Int32) : mkS cI cZ cC cG cB ad x (upd g 0 v) = .inr (3, [.int (g 0), .int (g 1), .ref (ad (x + 1)), .ref (ad (x + 2)), .ref (ad (x + 3)), .ref (ad (x + 4)), .ref (ad (x + 5)), .ref (ad (x + 6)), .ref (ad (x + 7)), .ref (ad (x + 8)), .ref (ad (x + 9)), .ref (ad (x + 10))].set 0 (.int v)) := by rcases h with h | h | h <;> subst h <;> rfl
theorem pS_G_1 {x : Nat} (h : isG x) (g : Nat → Int32) (v : Int32) : mkS cI cZ cC cG cB ad x (upd g 1 v) = .inr (3, [.int (g 0), .int (g 1), .ref (ad (x + 1)), .ref (ad (x + 2)), .ref (ad (x + 3)), .ref (ad (x + 4)), .ref (ad (x + 5)), .ref (ad (x + 6)), .ref (ad (x + 7)), .ref (ad (x + 8)), .ref (ad (x + 9)), .ref (ad (x + 10))].set 1 (.int v)) := by rcases h with h | h | h <;> subst h <;> rfl
theorem pS_R_0 {x : Nat} (h : isR x) (g : Nat → Int32) (v : Int32) : mkS cI cZ cC cG cB ad x (upd g 0 v) = .inr (8, [.int (g 0), .int (g 1), .int (g 2), .int (g 3), .ref (ad (x + 1))].set 0 (.int v)) := by rcases h with h | h | h | h <;> subst h <;> rfl
theorem pS_R_1 {x : Nat} (h : isR x) (g : Nat → Int32) (v : Int32) : mkS cI cZ cC cG cB ad x (upd g 1 v) = .inr (8, [.int (g 0), .int (g 1), .int (g 2), .int (g 3), .ref (ad (x + 1))].set 1 (.int v)) := by rcases h with h | h | h | h <;> subst h <;> rfl
theorem pS_R_2 {x : Nat} (h : isR x) (g : Nat → Int32) (v : Int32) : mkS cI cZ cC cG cB ad x (upd g 2 v) = .inr (8, [.int (g 0), .int (g 1), .int (g 2), .int (g 3), .ref (ad (x + 1))].set 2 (.int v)) := by rcases h with h | h | h | h <;> subst h <;> rfl
theorem pS_R_3 {x : Nat} (h : isR x) (g : Nat → Int32) (v : Int32) : mkS cI cZ cC cG cB ad x (upd g 3 v) = .inr (8, [.int (g 0), .int (g 1), .int (g 2), .int (g 3), .ref (ad (x + 1))].set 3 (.int v)) := by rcases h with h | h | h | h <;> subst h <;> rfl
theorem pS_18_3 (g : Nat → Int32) (v : Int32) : mkS cI cZ cC cG cB ad 18 (upd g 3 v) = .inr (2, [.int (g 0), .int (g 1), .int (g 2), .int (g 3), .int (g 4), .ref (ad 19), .ref (ad 20), .ref (ad 21), .ref (ad 22), .ref (ad 23), .ref (ad 24), .ref (ad 25)].set 3 (.int v)) := rfl
theorem put_longS (g : Nat → Int32) (z : Int64) : mkS cI cZ cC cG cB ad 0 (fun j => if j = 100 then l_hi z else if j = 101 then l_lo z else g j) = .inr (11, [.ref (ad 1), .int (g 1), .ref (ad 10), .ref (ad 18), .ref (ad 68), .ref (ad 26), .ref (ad 7), .ref (ad 2), .ref (ad 59), .ref (ad 61), .ref (ad 8), .ref (ad 3), .ref (ad 4), .ref (ad 5), .ref (ad 6), .int (g 15), .long (l_mk (g 100) (g 101))].set 16 (.long z)) := by
  rw [mS_0]; simp [l_mk_eq]
theorem put_bytes (g : Nat → Int32) : mkS cI cZ cC cG cB ad 68 (upd g 0 1) = .inr (7, [(if g 0 = 0 then .ref (ad 9) else .ref (ad 1)), .int (g 1), .int (g 2), .int (g 3), .int (g 4), .int (g 5), .int (g 6)].set 0 (.ref (ad 1))) := by
  rw [mS_68]; simp [upd]
end WS
theorem lk_out4 {x : Int32} (q0 : ¬ x = 99) (q1 : ¬ x = 103) (q2 : ¬ x = 107) (q3 : ¬ x = 111) : Op.lookupswitch.offset (#[(99, 65), (103, 41), (107, 49), (111, 57)] : Array (Int × Int)).toList 73 x.toInt = 73 := by
  have h0 : x.toInt ≠ 99 := fun e => q0 (Int32.toInt_inj.mp (by rw [e]; rfl))
  have h1 : x.toInt ≠ 103 := fun e => q1 (Int32.toInt_inj.mp (by rw [e]; rfl))
  have h2 : x.toInt ≠ 107 := fun e => q2 (Int32.toInt_inj.mp (by rw [e]; rfl))
  have h3 : x.toInt ≠ 111 := fun e => q3 (Int32.toInt_inj.mp (by rw [e]; rfl))
  simp [Op.lookupswitch.offset, Ne.symm h0, Ne.symm h1, Ne.symm h2, Ne.symm h3, h0, h1, h2, h3]
section KK3
variable {Γ : Cx} {cc : ByteArray} {own : String} {Ts : List Cond} {ret : Option FieldType} {pc : Nat} {lv lv' : List (Nat × Value)} {st : List Value} {σ : St} {x y : Int32}
theorem k_putB (K : KS Γ cc own Ts ret) (i ci k : Nat) {q : Nat} {C : String} {T : u_T} {N index : Nat} {fs : List Value} (ty0 : Nat → FieldType) (hty : ∀ k, k < N → parseFieldDescriptor (T k).2.2.1 = some (ty0 k)) (hnm : ∀ a, a < N → ∀ b, b < N → a ≠ b → (T a).2.1 ≠ (T b).2.1) (hin : ∀ w ∈ u_ws C T N, w ∈ Ts) (hi : i < x_N Γ) (hm : x_mk Γ i (σ i) = .inr (ci, fs)) (hc : (x_cl Γ)[ci]? = some (C, T, N)) (hk : k < N) (hlink : Cond.fieldLink own index (T k).1 (T k).2.1 (T k).2.2.1 ∈ Ts) (hfin : (T k).2.2.2 = false) (hd : parseFieldDescriptor (T k).2.2.1 = some (.array .char)) (hl0 : k < fs.length) (he : x_mk Γ i (upd (σ i) k 1) = .inr (ci, fs.set k (.ref q))) (hdg : decode cc pc = .ok (.putfield index, 3)) (kk : Wk Γ (pc + 3) lv st (s_up σ i k 1)) : Wk Γ pc lv (.ref q :: .ref (x_ad Γ i) :: st) σ := k_put K i ci k ty0 hty hnm hin hi hm hc hk hlink hfin hd rfl rfl hl0 he.symm hdg (by rw [← s_up_row]; exact kk)
theorem k_ald (K : KS Γ cc own Ts ret) (i t0 : Nat) {cA : ClassId} {C : String} {n q : Nat} {f : Nat → Option Nat} (hi : i < x_N Γ) (hm : ∀ g, x_mk Γ i g = .inl (cA, n, .inr (.inr (.inr (.inr f))))) (ht : (x_ty Γ)[t0]? = some (cA, .object C)) (hin : ib x n) (hv : f (nx x) = some q) (hdg : decode cc pc = .ok (.aaload, 1)) (kk : Wk Γ (pc + 1) lv (.ref q :: st) σ) : Wk Γ pc lv (.int x :: .ref (x_ad Γ i) :: st) σ := fun H locs ls hP hS hl => va_aldq K.1 K.2.1 K.vk hP i t0 (w_d_get hi (hm _)) ht hin hdg (by rw [hv]; exact kk H locs ls hP hS hl)
theorem ret_i {ok : Int32 → Prop} {res : Int32 × St} (hR : HRi Γ cc ok res) (h : some (x, σ) = some res) (hd : decode cc pc = .ok (.ireturn, 1)) (hok : ok x) : Wk Γ pc lv [.int x] σ := by cases h; exact hR _ _ hd hok
theorem ret_v {res : Int32 × St} (hR : HRv Γ cc res) (h : some (x, σ) = some res) (hd : decode cc pc = .ok (.return_, 1)) : Wk Γ pc lv [] σ := by cases h; exact hR _ _ hd
theorem ret_l {z : Int64} {res : Int64 × St} (hR : HRl Γ cc res) (h : some (z, σ) = some res) (hd : decode cc pc = .ok (.lreturn, 1)) : Wk Γ pc lv [.long z] σ := by cases h; exact hR _ _ hd
end KK3

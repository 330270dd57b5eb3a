theorem pure_sim : ∃ I : St → St → Prop, Sim I ∧ I sS0 sM0 := ⟨Inv, sim_all, inv_start⟩
/-- the law, from its entry -/
theorem whole_start {p : Program} {e : Env} {s : State} {m : MethodId} {below : List Frame} {meth : Method} {c : Code} (l : Launch) {b L : Nat} {xs : Nat → Int32} (hL : L ≤ 2560) (C0 : lw_At p s m meth c b L xs) : W p l e room_1 s m #[Value.ref b] below meth c s.heap [] 0 0 (lw_Z below #[Value.ref b] s) (entryFrame m ([Value.ref b] : List Value).toArray 4) := by
  obtain ⟨I, hs, h0⟩ := pure_sim
  exact whole_start_open hs h0 l hL C0

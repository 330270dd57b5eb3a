/-! walks, by program -/
-- X11_trace (0, 0)
theorem iX11_trace_X11 : ∀ w ∈ wsX110, w ∈ wsX11_trace := fun _ h => List.mem_cons_of_mem _ (List.mem_append_right _ h)
theorem fX11_trace_300 : Cond.fieldLink RX11 300 "SlopeCoins" "traced" "J" ∈ wsX11_trace := by decide +kernel
set_option maxRecDepth 100000 in
set_option maxHeartbeats 4000000 in
theorem ctX11_trace {l : Launch} {D : va_G} {cI cZ cC cG cB : ClassId} {ad : Nat → Nat} {σ : St} {res : (Int64 × St)} (h : mX11_trace σ = some res) : Cl l yX11_trace wsX11_trace 0 0 D vwCl (tysS cI cZ cC cG cB) nwS (mkS cI cZ cC cG cB ad) ad 75 [.ref (ad 0)] σ res := by
  refine c_long (cc := cX11_trace) (maxL := 1) (by decide) rfl (Nat.le_of_ble_eq_true rfl) fun a b hn K hR => ?_
  unfold mX11_trace at h
  have K : KS (GS l 0 0 D cI cZ cC cG cB ad a b (w_A ad 75)) cX11_trace RX11 wsX11_trace (some .long) := K
  have hn : x_n (GS l 0 0 D cI cZ cC cG cB ad a b (w_A ad 75)) = 1 := hn
  refine k_sub [0] rfl ?_
  refine k_aload_n K dX11_trace_0 0 rfl ?_
  refine k_get K 0 11 16 iX11_trace_X11 (Nat.le_of_ble_eq_true rfl) ((mS_0 cI cZ cC cG cB ad) _) rfl (by decide) fX11_trace_300 rfl dX11_trace_1 ?_
  exact ret_l hR h dX11_trace_4

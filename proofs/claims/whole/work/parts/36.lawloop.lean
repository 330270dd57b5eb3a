/-! the law's loop -/
set_option maxRecDepth 100000 in
set_option maxHeartbeats 4000000 in
theorem law_loop {z : Zx} {L : Nat} {xs : Nat → Int32} {am : Nat → Nat} {h1 h2 : Nat} {I : St → St → Prop} (K : ZK z L xs) (hL : L ≤ 2560) (hSim : Sim I) (h2e : am 0 = h2) :
    ∀ (n i : Nat), L + 5 < i + n → i ≤ L + 5 → ∀ (ad : Nat → Nat), ad 0 = h1 → ∀ σ τ, I σ τ → Wz z 18 [(0, .ref (z_b z)), (1, .ref h1), (2, .ref h2), (3, .int (nI i))] [] ad am σ τ := by
  intro n
  induction n with
  | zero => intro i h hi; omega
  | succ n ih =>
    intro i hn hi ad h1e σ τ hI
    refine z_iload_n K dL_law_18 3 rfl ?_
    refine z_aload_n K dL_law_19 0 rfl ?_
    refine z_slen K dL_law_20 ?_
    refine z_iconst (x := 5) K dL_law_21 (by decide) ?_
    refine z_isub K dL_law_22 ?_
    refine z_icmp_gt (tgt := 1061) K dL_law_23 (by decide) (fun q => ?_) (fun q => ?_)
    · refine z_iconst (x := 1) K dL_law_1061 (by decide) ?_
      exact z_end K dL_law_1062
    · have hlt : i + 5 ≤ L := by
        have e5 : (5 : Int32) = nI 5 := rfl
        rw [e5, Int32.lt_iff_toInt_lt, pk_sub_toInt (by omega) (by omega), nI_toInt (by omega)] at q
        omega
      have hin : ∀ j : Nat, j < 5 → vp_in (nI i + nI j) L := fun j hj => by rw [nI_add]; exact vp_in_nI (by omega) (by omega)
      have hin0 : vp_in (nI i) L := vp_in_nI (by omega) (by omega)
      have kk : ∀ (ad : Nat → Nat), ad 0 = h1 → ∀ σ τ, I σ τ → Wz z 1055 [(0, .ref (z_b z)), (1, .ref h1), (2, .ref h2), (3, .int (nI i))] [] ad am σ τ := by
        intro ad h1e σ τ hI
        refine z_iinc (v := nI (i + 5)) (lv' := [(3, _), (0, _), (1, _), (2, _)]) K dL_law_1055 3 rfl (show nI i + nI 5 = nI (i + 5) from nI_add i 5) (by decide) rfl ?_
        refine z_goto (tgt := 18) K dL_law_1058 (by decide) ?_
        exact z_sub [1, 2, 3, 0] rfl (ih (i + 5) (by omega) (by omega) ad h1e σ τ hI)
      refine z_aload_n K dL_law_26 0 rfl ?_
      refine z_iload_n K dL_law_27 3 rfl ?_
      refine z_sld K hin0 dL_law_28 ?_
      refine z_bipush (x := 31) K dL_law_29 (by decide) ?_
      refine z_iand K dL_law_31 ?_
      refine z_case (y := 0) (fun q0 => ?_) (fun q0 => ?_)
      · refine z_tableIn (off := 128) (tgt := 160) K dL_law_32 (by rw [q0]; decide) (by rw [q0]; decide) (by rw [q0]; rfl) (by decide) ?_
        exact law_type K hSim hI h1e h2e hin kk
      ·
        refine z_case (y := 1) (fun q1 => ?_) (fun q1 => ?_)
        · refine z_tableIn (off := 151) (tgt := 183) K dL_law_32 (by rw [q1]; decide) (by rw [q1]; decide) (by rw [q1]; rfl) (by decide) ?_
          exact law_clear K hSim hI h1e h2e hin kk
        ·
          refine z_case (y := 2) (fun q2 => ?_) (fun q2 => ?_)
          · refine z_tableIn (off := 164) (tgt := 196) K dL_law_32 (by rw [q2]; decide) (by rw [q2]; decide) (by rw [q2]; rfl) (by decide) ?_
            exact law_city K hSim hI h1e h2e hin kk
          ·
            refine z_case (y := 3) (fun q3 => ?_) (fun q3 => ?_)
            · refine z_tableIn (off := 177) (tgt := 209) K dL_law_32 (by rw [q3]; decide) (by rw [q3]; decide) (by rw [q3]; rfl) (by decide) ?_
              exact law_cell K hSim hI h1e h2e hin kk
            ·
              refine z_case (y := 4) (fun q4 => ?_) (fun q4 => ?_)
              · refine z_tableIn (off := 220) (tgt := 252) K dL_law_32 (by rw [q4]; decide) (by rw [q4]; decide) (by rw [q4]; rfl) (by decide) ?_
                exact law_kind K hSim hI h1e h2e hin kk
              ·
                refine z_case (y := 5) (fun q5 => ?_) (fun q5 => ?_)
                · refine z_tableIn (off := 253) (tgt := 285) K dL_law_32 (by rw [q5]; decide) (by rw [q5]; decide) (by rw [q5]; rfl) (by decide) ?_
                  exact law_lets K hSim hI h1e h2e hin kk
                ·
                  refine z_case (y := 6) (fun q6 => ?_) (fun q6 => ?_)
                  · refine z_tableIn (off := 296) (tgt := 328) K dL_law_32 (by rw [q6]; decide) (by rw [q6]; decide) (by rw [q6]; rfl) (by decide) ?_
                    exact law_sets K hSim hI h1e h2e hin kk
                  ·
                    refine z_case (y := 7) (fun q7 => ?_) (fun q7 => ?_)
                    · refine z_tableIn (off := 339) (tgt := 371) K dL_law_32 (by rw [q7]; decide) (by rw [q7]; decide) (by rw [q7]; rfl) (by decide) ?_
                      exact law_takes K hSim hI h1e h2e hin kk
                    ·
                      refine z_case (y := 8) (fun q8 => ?_) (fun q8 => ?_)
                      · refine z_tableIn (off := 382) (tgt := 414) K dL_law_32 (by rw [q8]; decide) (by rw [q8]; decide) (by rw [q8]; rfl) (by decide) ?_
                        exact law_cobble K hSim hI h1e h2e hin kk
                      ·
                        refine z_case (y := 9) (fun q9 => ?_) (fun q9 => ?_)
                        · refine z_tableIn (off := 425) (tgt := 457) K dL_law_32 (by rw [q9]; decide) (by rw [q9]; decide) (by rw [q9]; rfl) (by decide) ?_
                          exact law_sweep K hSim hI h1e h2e hin kk
                        ·
                          refine z_case (y := 10) (fun q10 => ?_) (fun q10 => ?_)
                          · refine z_tableIn (off := 458) (tgt := 490) K dL_law_32 (by rw [q10]; decide) (by rw [q10]; decide) (by rw [q10]; rfl) (by decide) ?_
                            exact law_undo K hSim hI h1e h2e hin kk
                          ·
                            refine z_case (y := 11) (fun q11 => ?_) (fun q11 => ?_)
                            · refine z_tableIn (off := 471) (tgt := 503) K dL_law_32 (by rw [q11]; decide) (by rw [q11]; decide) (by rw [q11]; rfl) (by decide) ?_
                              exact law_now K hSim hI h1e h2e hin kk
                            ·
                              refine z_case (y := 12) (fun q12 => ?_) (fun q12 => ?_)
                              · refine z_tableIn (off := 494) (tgt := 526) K dL_law_32 (by rw [q12]; decide) (by rw [q12]; decide) (by rw [q12]; rfl) (by decide) ?_
                                exact law_end K hSim hI h1e h2e hin kk
                              ·
                                refine z_case (y := 13) (fun q13 => ?_) (fun q13 => ?_)
                                · refine z_tableIn (off := 547) (tgt := 579) K dL_law_32 (by rw [q13]; decide) (by rw [q13]; decide) (by rw [q13]; rfl) (by decide) ?_
                                  exact law_doors K hSim hI h1e h2e hin kk
                                ·
                                  refine z_case (y := 14) (fun q14 => ?_) (fun q14 => ?_)
                                  · refine z_tableIn (off := 590) (tgt := 622) K dL_law_32 (by rw [q14]; decide) (by rw [q14]; decide) (by rw [q14]; rfl) (by decide) ?_
                                    exact law_planks K hSim hI h1e h2e hin kk
                                  ·
                                    refine z_case (y := 15) (fun q15 => ?_) (fun q15 => ?_)
                                    · refine z_tableIn (off := 643) (tgt := 675) K dL_law_32 (by rw [q15]; decide) (by rw [q15]; decide) (by rw [q15]; rfl) (by decide) ?_
                                      exact law_paved K hSim hI h1e h2e hin kk
                                    ·
                                      refine z_case (y := 16) (fun q16 => ?_) (fun q16 => ?_)
                                      · refine z_tableIn (off := 696) (tgt := 728) K dL_law_32 (by rw [q16]; decide) (by rw [q16]; decide) (by rw [q16]; rfl) (by decide) ?_
                                        exact law_rain K hSim hI h1e h2e hin kk
                                      ·
                                        refine z_case (y := 17) (fun q17 => ?_) (fun q17 => ?_)
                                        · refine z_tableIn (off := 719) (tgt := 751) K dL_law_32 (by rw [q17]; decide) (by rw [q17]; decide) (by rw [q17]; rfl) (by decide) ?_
                                          exact law_feet K hSim hI h1e h2e hin kk
                                        ·
                                          refine z_case (y := 18) (fun q18 => ?_) (fun q18 => ?_)
                                          · refine z_tableIn (off := 772) (tgt := 804) K dL_law_32 (by rw [q18]; decide) (by rw [q18]; decide) (by rw [q18]; rfl) (by decide) ?_
                                            exact law_apart K hSim hI h1e h2e hin kk
                                          ·
                                            refine z_case (y := 19) (fun q19 => ?_) (fun q19 => ?_)
                                            · refine z_tableIn (off := 805) (tgt := 837) K dL_law_32 (by rw [q19]; decide) (by rw [q19]; decide) (by rw [q19]; rfl) (by decide) ?_
                                              exact law_rolls K hSim hI h1e h2e hin kk
                                            ·
                                              refine z_case (y := 20) (fun q20 => ?_) (fun q20 => ?_)
                                              · refine z_tableIn (off := 818) (tgt := 850) K dL_law_32 (by rw [q20]; decide) (by rw [q20]; decide) (by rw [q20]; rfl) (by decide) ?_
                                                exact law_saw K hSim hI h1e h2e hin kk
                                              ·
                                                refine z_case (y := 21) (fun q21 => ?_) (fun q21 => ?_)
                                                · refine z_tableIn (off := 861) (tgt := 893) K dL_law_32 (by rw [q21]; decide) (by rw [q21]; decide) (by rw [q21]; rfl) (by decide) ?_
                                                  exact law_forget K hSim hI h1e h2e hin kk
                                                ·
                                                  refine z_case (y := 22) (fun q22 => ?_) (fun q22 => ?_)
                                                  · refine z_tableIn (off := 874) (tgt := 906) K dL_law_32 (by rw [q22]; decide) (by rw [q22]; decide) (by rw [q22]; rfl) (by decide) ?_
                                                    exact law_moved K hSim hI h1e h2e hin kk
                                                  ·
                                                    refine z_case (y := 23) (fun q23 => ?_) (fun q23 => ?_)
                                                    · refine z_tableIn (off := 897) (tgt := 929) K dL_law_32 (by rw [q23]; decide) (by rw [q23]; decide) (by rw [q23]; rfl) (by decide) ?_
                                                      exact law_mark K hSim hI h1e h2e hin kk
                                                    ·
                                                      refine z_case (y := 24) (fun q24 => ?_) (fun q24 => ?_)
                                                      · refine z_tableIn (off := 940) (tgt := 972) K dL_law_32 (by rw [q24]; decide) (by rw [q24]; decide) (by rw [q24]; rfl) (by decide) ?_
                                                        exact law_keep K hSim hI h1e h2e hin kk
                                                      ·
                                                        refine z_case (y := 25) (fun q25 => ?_) (fun q25 => ?_)
                                                        · refine z_tableIn (off := 963) (tgt := 995) K dL_law_32 (by rw [q25]; decide) (by rw [q25]; decide) (by rw [q25]; rfl) (by decide) ?_
                                                          exact law_back K hSim hI h1e h2e hin kk
                                                        ·
                                                          refine z_case (y := 26) (fun q26 => ?_) (fun q26 => ?_)
                                                          · refine z_tableIn (off := 986) (tgt := 1018) K dL_law_32 (by rw [q26]; decide) (by rw [q26]; decide) (by rw [q26]; rfl) (by decide) ?_
                                                            exact law_count K hSim hI h1e h2e hin kk
                                                          ·
                                                            refine z_case (y := 27) (fun q27 => ?_) (fun q27 => ?_)
                                                            · refine z_tableIn (off := 1009) (tgt := 1041) K dL_law_32 (by rw [q27]; decide) (by rw [q27]; decide) (by rw [q27]; rfl) (by decide) ?_
                                                              exact law_trace K hSim hI h1e h2e hin kk
                                                            ·
                                                              refine z_tableOut (tgt := 1055) K dL_law_32 (sw_out28 q0 q1 q2 q3 q4 q5 q6 q7 q8 q9 q10 q11 q12 q13 q14 q15 q16 q17 q18 q19 q20 q21 q22 q23 q24 q25 q26 q27) (by decide) ?_
                                                              exact kk ad h1e σ τ hI

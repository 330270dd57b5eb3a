/-! the law from its entry -/
/-- which cell was made when -/
def pm (i : Nat) : Nat := match i with
  | 0 => 0
  | 1 => 1
  | 2 => 32
  | 3 => 43
  | 4 => 44
  | 5 => 45
  | 6 => 46
  | 7 => 31
  | 8 => 42
  | 9 => 19
  | 10 => 2
  | 11 => 3
  | 12 => 4
  | 13 => 5
  | 14 => 6
  | 15 => 7
  | 16 => 8
  | 17 => 9
  | 18 => 10
  | 19 => 11
  | 20 => 12
  | 21 => 13
  | 22 => 14
  | 23 => 15
  | 24 => 16
  | 25 => 17
  | 26 => 20
  | 27 => 21
  | 28 => 22
  | 29 => 23
  | 30 => 24
  | 31 => 25
  | 32 => 26
  | 33 => 27
  | 34 => 28
  | 35 => 29
  | 36 => 30
  | 37 => 47
  | 38 => 48
  | 39 => 49
  | 40 => 50
  | 41 => 51
  | 42 => 52
  | 43 => 53
  | 44 => 54
  | 45 => 55
  | 46 => 56
  | 47 => 57
  | 48 => 58
  | 49 => 59
  | 50 => 60
  | 51 => 61
  | 52 => 62
  | 53 => 63
  | 54 => 64
  | 55 => 65
  | 56 => 66
  | 57 => 67
  | 58 => 68
  | 59 => 33
  | 60 => 34
  | 61 => 35
  | 62 => 36
  | 63 => 37
  | 64 => 38
  | 65 => 39
  | 66 => 40
  | 67 => 41
  | 68 => 18
  | 69 => 69
  | 70 => 70
  | 71 => 71
  | 72 => 72
  | 73 => 73
  | 74 => 74
  | n => n
def adS (h0 : Nat) (u : Nat → Nat) : Nat → Nat := fun i => adI h0 u (pm i)
theorem pm_lt : ∀ i, i < 75 → pm i < 75 := by decide +kernel
theorem pm_inj : ∀ i, i < 75 → ∀ j, j < 75 → pm i = pm j → i = j := by decide +kernel
theorem vp_cell_refs {cA : ClassId} {n : Nat} {f g : Nat → Option Nat} (h : ∀ j, j < n → f j = g j) : vp_cell cA (n, .inr (.inr (.inr (.inr f)))) = vp_cell cA (n, .inr (.inr (.inr (.inr g)))) := by
  show arrV cA n (fun j => va_rf (f j)) = arrV cA n (fun j => va_rf (g j))
  unfold arrV
  congr 1
  apply Array.ext
  · simp
  · intro i h1 h2
    simp at h1 ⊢
    rw [h i h1]
set_option maxRecDepth 100000 in
set_option maxHeartbeats 4000000 in
theorem wS0_len (cI cZ cC cG cB : ClassId) (h0 : Nat) (u : Nat → Nat) : (wS0 cI cZ cC cG cB h0 u).length = 75 := rfl
set_option maxRecDepth 100000 in
set_option maxHeartbeats 4000000 in
/-- the addresses in the order of making -/
theorem wS0_ad (cI cZ cC cG cB : ClassId) (h0 : Nat) (u : Nat → Nat) : (wS0 cI cZ cC cG cB h0 u).map (fun q => q.1) = (List.range 75).map (adI h0 u) := rfl
set_option maxRecDepth 100000 in
set_option maxHeartbeats 4000000 in
theorem wM0_ad (cI cZ : ClassId) (h0 : Nat) (u : Nat → Nat) : (w_d (mkM cI cZ (adI h0 u)) (adI h0 u) 17 sM0).map (fun q => q.1) = (List.range 17).map (adI h0 u) := rfl
set_option maxRecDepth 100000 in
set_option maxHeartbeats 8000000 in
theorem wS0_P {D : va_G} {cI cZ cC cG cB : ClassId} {h0 : Nat} {u : Nat → Nat} {H : Heap} (hP : va_P D vwCl (wS0 cI cZ cC cG cB h0 u) H) : va_P D vwCl (w_d (mkS cI cZ cC cG cB (adS h0 u)) (adS h0 u) 75 sS0) H := by
  intro k q hk
  have hk75 : k < 75 := by have := (List.getElem?_eq_some_iff.mp hk).1; simpa [w_d] using this
  rw [w_d_get hk75 rfl] at hk
  cases hk
  rcases (show k = 0 ∨ k = 1 ∨ k = 2 ∨ k = 3 ∨ k = 4 ∨ k = 5 ∨ k = 6 ∨ k = 7 ∨ k = 8 ∨ k = 9 ∨ k = 10 ∨ k = 11 ∨ k = 12 ∨ k = 13 ∨ k = 14 ∨ k = 15 ∨ k = 16 ∨ k = 17 ∨ k = 18 ∨ k = 19 ∨ k = 20 ∨ k = 21 ∨ k = 22 ∨ k = 23 ∨ k = 24 ∨ k = 25 ∨ k = 26 ∨ k = 27 ∨ k = 28 ∨ k = 29 ∨ k = 30 ∨ k = 31 ∨ k = 32 ∨ k = 33 ∨ k = 34 ∨ k = 35 ∨ k = 36 ∨ k = 37 ∨ k = 38 ∨ k = 39 ∨ k = 40 ∨ k = 41 ∨ k = 42 ∨ k = 43 ∨ k = 44 ∨ k = 45 ∨ k = 46 ∨ k = 47 ∨ k = 48 ∨ k = 49 ∨ k = 50 ∨ k = 51 ∨ k = 52 ∨ k = 53 ∨ k = 54 ∨ k = 55 ∨ k = 56 ∨ k = 57 ∨ k = 58 ∨ k = 59 ∨ k = 60 ∨ k = 61 ∨ k = 62 ∨ k = 63 ∨ k = 64 ∨ k = 65 ∨ k = 66 ∨ k = 67 ∨ k = 68 ∨ k = 69 ∨ k = 70 ∨ k = 71 ∨ k = 72 ∨ k = 73 ∨ k = 74 by omega) with rfl | rfl | rfl | rfl | rfl | rfl | rfl | rfl | rfl | rfl | rfl | rfl | rfl | rfl | rfl | rfl | rfl | rfl | rfl | rfl | rfl | rfl | rfl | rfl | rfl | rfl | rfl | rfl | rfl | rfl | rfl | rfl | rfl | rfl | rfl | rfl | rfl | rfl | rfl | rfl | rfl | rfl | rfl | rfl | rfl | rfl | rfl | rfl | rfl | rfl | rfl | rfl | rfl | rfl | rfl | rfl | rfl | rfl | rfl | rfl | rfl | rfl | rfl | rfl | rfl | rfl | rfl | rfl | rfl | rfl | rfl | rfl | rfl | rfl | rfl
  · have h := hP 0 _ rfl
    have e := mS_0 cI cZ cC cG cB (adS h0 u) (sS0 0)
    rw [show l_mk (sS0 0 100) (sS0 0 101) = 0 from l_mk_00] at e
    show va_at D vwCl (adS h0 u 0, mkS cI cZ cC cG cB (adS h0 u) 0 (sS0 0)) H
    rw [e]
    exact h
  · exact hP 1 _ rfl
  · exact hP 32 _ rfl
  · exact hP 43 _ rfl
  · exact hP 44 _ rfl
  · exact hP 45 _ rfl
  · exact hP 46 _ rfl
  · have h : H[u 31]? = some (vp_cell cG (2, _)) := hP 31 _ rfl
    show H[u 31]? = some (vp_cell cG (2, .inr (.inr (.inr (.inr (fun j => some (adS h0 u (37 + 11 * j))))))))
    rw [h]
    refine congrArg some (vp_cell_refs (fun j hj => ?_))
    rcases (show j = 0 ∨ j = 1 by omega) with rfl | rfl <;> rfl
  · have h : H[u 42]? = some (vp_cell cB (6, _)) := hP 42 _ rfl
    show H[u 42]? = some (vp_cell cB (6, .inr (.inr (.inr (.inr (fun j => some (adS h0 u (69 + j))))))))
    rw [h]
    refine congrArg some (vp_cell_refs (fun j hj => ?_))
    rcases (show j = 0 ∨ j = 1 ∨ j = 2 ∨ j = 3 ∨ j = 4 ∨ j = 5 by omega) with rfl | rfl | rfl | rfl | rfl | rfl <;> rfl
  · exact hP 19 _ rfl
  · exact hP 2 _ rfl
  · exact hP 3 _ rfl
  · exact hP 4 _ rfl
  · exact hP 5 _ rfl
  · exact hP 6 _ rfl
  · exact hP 7 _ rfl
  · exact hP 8 _ rfl
  · exact hP 9 _ rfl
  · exact hP 10 _ rfl
  · exact hP 11 _ rfl
  · exact hP 12 _ rfl
  · exact hP 13 _ rfl
  · exact hP 14 _ rfl
  · exact hP 15 _ rfl
  · exact hP 16 _ rfl
  · exact hP 17 _ rfl
  · exact hP 20 _ rfl
  · exact hP 21 _ rfl
  · exact hP 22 _ rfl
  · exact hP 23 _ rfl
  · exact hP 24 _ rfl
  · exact hP 25 _ rfl
  · exact hP 26 _ rfl
  · exact hP 27 _ rfl
  · exact hP 28 _ rfl
  · exact hP 29 _ rfl
  · exact hP 30 _ rfl
  · exact hP 47 _ rfl
  · exact hP 48 _ rfl
  · exact hP 49 _ rfl
  · exact hP 50 _ rfl
  · exact hP 51 _ rfl
  · exact hP 52 _ rfl
  · exact hP 53 _ rfl
  · exact hP 54 _ rfl
  · exact hP 55 _ rfl
  · exact hP 56 _ rfl
  · exact hP 57 _ rfl
  · exact hP 58 _ rfl
  · exact hP 59 _ rfl
  · exact hP 60 _ rfl
  · exact hP 61 _ rfl
  · exact hP 62 _ rfl
  · exact hP 63 _ rfl
  · exact hP 64 _ rfl
  · exact hP 65 _ rfl
  · exact hP 66 _ rfl
  · exact hP 67 _ rfl
  · exact hP 68 _ rfl
  · exact hP 33 _ rfl
  · exact hP 34 _ rfl
  · exact hP 35 _ rfl
  · exact hP 36 _ rfl
  · exact hP 37 _ rfl
  · exact hP 38 _ rfl
  · exact hP 39 _ rfl
  · exact hP 40 _ rfl
  · exact hP 41 _ rfl
  · exact hP 18 _ rfl
  · exact hP 69 _ rfl
  · exact hP 70 _ rfl
  · exact hP 71 _ rfl
  · exact hP 72 _ rfl
  · exact hP 73 _ rfl
  · exact hP 74 _ rfl
